section
/-- a private method of a class that the tables say can be made, by its rows of tables_1 -/
def lw_okq (q : MethodName × Nat) : Prop := (q.1.cls ≠ "java/lang/invoke/MethodHandle" ∧ q.1.cls ≠ "java/lang/invoke/VarHandle") ∧ Cond.instantiable q.1.cls q.2 ∈ tables_1 ∧ Cond.privateMethod q.1 ∈ tables_1 ∧ Cond.instanceMethod q.1 ∈ tables_1
theorem lw_p0 : lw_okq (⟨"WitheringLoft$Trough", "loseMoisture", "(I)I"⟩, 10) := ⟨⟨by decide +kernel, by decide +kernel⟩, List.mem_of_getElem? (i := 67) (by decide +kernel), List.mem_of_getElem? (i := 350) (by decide +kernel), List.mem_of_getElem? (i := 351) (by decide +kernel)⟩
theorem lw_p1 : lw_okq (⟨"WitheringLoft$Loft", "ageProbes", "()V"⟩, 13) := ⟨⟨by decide +kernel, by decide +kernel⟩, List.mem_of_getElem? (i := 30) (by decide +kernel), List.mem_of_getElem? (i := 357) (by decide +kernel), List.mem_of_getElem? (i := 358) (by decide +kernel)⟩
theorem lw_p2 : lw_okq (⟨"java/lang/Throwable", "fillInStackTrace", "(I)Ljava/lang/Throwable;"⟩, 6) := ⟨⟨by decide +kernel, by decide +kernel⟩, List.mem_of_getElem? (i := 433) (by decide +kernel), List.mem_of_getElem? (i := 431) (by decide +kernel), List.mem_of_getElem? (i := 432) (by decide +kernel)⟩
theorem lw_p3 : lw_okq (⟨"WitheringLoft", "existingTrough", "(I)LWitheringLoft$Trough;"⟩, 7) := ⟨⟨by decide +kernel, by decide +kernel⟩, List.mem_of_getElem? (i := 22) (by decide +kernel), List.mem_of_getElem? (i := 538) (by decide +kernel), List.mem_of_getElem? (i := 539) (by decide +kernel)⟩
theorem lw_p4 : lw_okq (⟨"WitheringLoft", "existingProbe", "(I)LWitheringLoft$Probe;"⟩, 7) := ⟨⟨by decide +kernel, by decide +kernel⟩, List.mem_of_getElem? (i := 22) (by decide +kernel), List.mem_of_getElem? (i := 702) (by decide +kernel), List.mem_of_getElem? (i := 703) (by decide +kernel)⟩
def lw_privs_1 : List (MethodName × Nat) := [(⟨"WitheringLoft$Trough", "loseMoisture", "(I)I"⟩, 10), (⟨"WitheringLoft$Loft", "ageProbes", "()V"⟩, 13), (⟨"java/lang/Throwable", "fillInStackTrace", "(I)Ljava/lang/Throwable;"⟩, 6), (⟨"WitheringLoft", "existingTrough", "(I)LWitheringLoft$Trough;"⟩, 7), (⟨"WitheringLoft", "existingProbe", "(I)LWitheringLoft$Probe;"⟩, 7)]
theorem lw_r1 : ∀ q ∈ lw_privs_1, lw_okq q := List.forall_mem_cons.mpr ⟨lw_p0, List.forall_mem_cons.mpr ⟨lw_p1, List.forall_mem_cons.mpr ⟨lw_p2, List.forall_mem_cons.mpr ⟨lw_p3, List.forall_mem_cons.mpr ⟨lw_p4, fun _ h => absurd h List.not_mem_nil⟩⟩⟩⟩⟩
def lw_privs : List (MethodName × Nat) := lw_privs_1
def lw_tbl : List Cond := k2_sels lw_privs ++ tables_1
theorem lw_privs_ok : ∀ q ∈ lw_privs, lw_okq q := lw_r1
end
section
def RX0 : String := "WitheringLoft$1"
def TX0 : u_T := fun k => match k with
  | _ => ("", "", "", false)
def tyX0 : Nat → FieldType := fun k => match k with
  | _ => .int
theorem nmX0 : ∀ a, a < 0 → ∀ b, b < 0 → a ≠ b → (TX0 a).2.1 ≠ (TX0 b).2.1 := by decide +kernel
theorem tyX0_ok : ∀ k, k < 0 → parseFieldDescriptor (TX0 k).2.2.1 = some (tyX0 k) := by decide +kernel
def RX1 : String := "WitheringLoft$Air"
def TX1 : u_T := fun k => match k with
  | 0 => ("WitheringLoft$Air", "hour", "I", false)
  | 1 => ("WitheringLoft$Air", "usualHumidity", "I", false)
  | 2 => ("WitheringLoft$Air", "heatLevel", "I", false)
  | 3 => ("WitheringLoft$Air", "monsoonCount", "I", false)
  | _ => ("WitheringLoft$Air", "monsoonDays", "[I", true)
def tyX1 : Nat → FieldType := fun k => match k with
  | 0 => .int
  | 1 => .int
  | 2 => .int
  | 3 => .int
  | _ => .array .int
theorem nmX1 : ∀ a, a < 5 → ∀ b, b < 5 → a ≠ b → (TX1 a).2.1 ≠ (TX1 b).2.1 := by decide +kernel
theorem tyX1_ok : ∀ k, k < 5 → parseFieldDescriptor (TX1 k).2.2.1 = some (tyX1 k) := by decide +kernel
abbrev cX1_init : ByteArray := prog_3_method_1_code
def yX1_init : MethodName := ⟨RX1, "<init>", "()V"⟩
abbrev cX1_clear : ByteArray := prog_3_method_2_code
def yX1_clear : MethodName := ⟨RX1, "clear", "()V"⟩
abbrev cX1_become : ByteArray := prog_3_method_3_code
def yX1_become : MethodName := ⟨RX1, "become", "(LWitheringLoft$Air;)V"⟩
abbrev cX1_presentDay : ByteArray := prog_3_method_4_code
def yX1_presentDay : MethodName := ⟨RX1, "presentDay", "()I"⟩
abbrev cX1_hasHoursLeft : ByteArray := prog_3_method_5_code
def yX1_hasHoursLeft : MethodName := ⟨RX1, "hasHoursLeft", "(I)Z"⟩
abbrev cX1_hasRoomForMonsoon : ByteArray := prog_3_method_6_code
def yX1_hasRoomForMonsoon : MethodName := ⟨RX1, "hasRoomForMonsoon", "()Z"⟩
abbrev cX1_addMonsoon : ByteArray := prog_3_method_7_code
def yX1_addMonsoon : MethodName := ⟨RX1, "addMonsoon", "(I)V"⟩
abbrev cX1_hasMonsoonAt : ByteArray := prog_3_method_8_code
def yX1_hasMonsoonAt : MethodName := ⟨RX1, "hasMonsoonAt", "(I)Z"⟩
abbrev cX1_hoursToNextMonsoon : ByteArray := prog_3_method_9_code
def yX1_hoursToNextMonsoon : MethodName := ⟨RX1, "hoursToNextMonsoon", "()I"⟩
abbrev cX1_humidityOf : ByteArray := prog_3_method_10_code
def yX1_humidityOf : MethodName := ⟨RX1, "humidityOf", "(I)I"⟩
abbrev cX1_drynessOf : ByteArray := prog_3_method_11_code
def yX1_drynessOf : MethodName := ⟨RX1, "drynessOf", "(I)I"⟩
def RX2 : String := "WitheringLoft$Command"
def TX2 : u_T := fun k => match k with
  | _ => ("", "", "", false)
def tyX2 : Nat → FieldType := fun k => match k with
  | _ => .int
theorem nmX2 : ∀ a, a < 0 → ∀ b, b < 0 → a ≠ b → (TX2 a).2.1 ≠ (TX2 b).2.1 := by decide +kernel
theorem tyX2_ok : ∀ k, k < 0 → parseFieldDescriptor (TX2 k).2.2.1 = some (tyX2 k) := by decide +kernel
def RX3 : String := "WitheringLoft$History"
def TX3 : u_T := fun k => match k with
  | 0 => ("WitheringLoft$History", "ring", "[LWitheringLoft$Loft;", true)
  | 1 => ("WitheringLoft$History", "next", "I", false)
  | _ => ("WitheringLoft$History", "count", "I", false)
def tyX3 : Nat → FieldType := fun k => match k with
  | 0 => .array (.object "WitheringLoft$Loft")
  | 1 => .int
  | _ => .int
theorem nmX3 : ∀ a, a < 3 → ∀ b, b < 3 → a ≠ b → (TX3 a).2.1 ≠ (TX3 b).2.1 := by decide +kernel
theorem tyX3_ok : ∀ k, k < 3 → parseFieldDescriptor (TX3 k).2.2.1 = some (tyX3 k) := by decide +kernel
abbrev cX3_init : ByteArray := prog_5_method_1_code
def yX3_init : MethodName := ⟨RX3, "<init>", "()V"⟩
abbrev cX3_remember : ByteArray := prog_5_method_2_code
def yX3_remember : MethodName := ⟨RX3, "remember", "(LWitheringLoft$Loft;)V"⟩
abbrev cX3_takeBack : ByteArray := prog_5_method_3_code
def yX3_takeBack : MethodName := ⟨RX3, "takeBack", "(LWitheringLoft$Loft;)V"⟩
def RX4 : String := "WitheringLoft$Input"
def TX4 : u_T := fun k => match k with
  | 0 => ("WitheringLoft$Input", "bytes", "[B", true)
  | _ => ("WitheringLoft$Input", "length", "I", false)
def tyX4 : Nat → FieldType := fun k => match k with
  | 0 => .array .byte
  | _ => .int
theorem nmX4 : ∀ a, a < 2 → ∀ b, b < 2 → a ≠ b → (TX4 a).2.1 ≠ (TX4 b).2.1 := by decide +kernel
theorem tyX4_ok : ∀ k, k < 2 → parseFieldDescriptor (TX4 k).2.2.1 = some (tyX4 k) := by decide +kernel
abbrev cX4_init : ByteArray := prog_6_method_1_code
def yX4_init : MethodName := ⟨RX4, "<init>", "()V"⟩
def RX5 : String := "WitheringLoft$Loft"
def TX5 : u_T := fun k => match k with
  | 0 => ("WitheringLoft$Loft", "air", "LWitheringLoft$Air;", true)
  | 1 => ("WitheringLoft$Loft", "troughs", "[LWitheringLoft$Trough;", true)
  | 2 => ("WitheringLoft$Loft", "troughCount", "I", false)
  | 3 => ("WitheringLoft$Loft", "probes", "[LWitheringLoft$Probe;", true)
  | 4 => ("WitheringLoft$Loft", "probeCount", "I", false)
  | 5 => ("WitheringLoft$Loft", "target", "I", false)
  | 6 => ("WitheringLoft$Loft", "tolerance", "I", false)
  | 7 => ("WitheringLoft$Loft", "loadedKilograms", "I", false)
  | 8 => ("WitheringLoft$Loft", "dischargedKilograms", "I", false)
  | 9 => ("WitheringLoft$Loft", "discardedKilograms", "I", false)
  | 10 => ("WitheringLoft$Loft", "removedWeight", "I", false)
  | 11 => ("WitheringLoft$Loft", "totalWorth", "I", false)
  | _ => ("WitheringLoft$Loft", "lostWater", "I", false)
def tyX5 : Nat → FieldType := fun k => match k with
  | 0 => .object "WitheringLoft$Air"
  | 1 => .array (.object "WitheringLoft$Trough")
  | 2 => .int
  | 3 => .array (.object "WitheringLoft$Probe")
  | 4 => .int
  | 5 => .int
  | 6 => .int
  | 7 => .int
  | 8 => .int
  | 9 => .int
  | 10 => .int
  | 11 => .int
  | _ => .int
theorem nmX5 : ∀ a, a < 13 → ∀ b, b < 13 → a ≠ b → (TX5 a).2.1 ≠ (TX5 b).2.1 := by decide +kernel
theorem tyX5_ok : ∀ k, k < 13 → parseFieldDescriptor (TX5 k).2.2.1 = some (tyX5 k) := by decide +kernel
abbrev cX5_init : ByteArray := prog_7_method_1_code
def yX5_init : MethodName := ⟨RX5, "<init>", "()V"⟩
abbrev cX5_clear : ByteArray := prog_7_method_2_code
def yX5_clear : MethodName := ⟨RX5, "clear", "()V"⟩
abbrev cX5_become : ByteArray := prog_7_method_3_code
def yX5_become : MethodName := ⟨RX5, "become", "(LWitheringLoft$Loft;)V"⟩
abbrev cX5_hasTrough : ByteArray := prog_7_method_4_code
def yX5_hasTrough : MethodName := ⟨RX5, "hasTrough", "(I)Z"⟩
abbrev cX5_troughAt : ByteArray := prog_7_method_5_code
def yX5_troughAt : MethodName := ⟨RX5, "troughAt", "(I)LWitheringLoft$Trough;"⟩
abbrev cX5_hasProbe : ByteArray := prog_7_method_6_code
def yX5_hasProbe : MethodName := ⟨RX5, "hasProbe", "(I)Z"⟩
abbrev cX5_probeAt : ByteArray := prog_7_method_7_code
def yX5_probeAt : MethodName := ⟨RX5, "probeAt", "(I)LWitheringLoft$Probe;"⟩
abbrev cX5_hasRoomForTrough : ByteArray := prog_7_method_8_code
def yX5_hasRoomForTrough : MethodName := ⟨RX5, "hasRoomForTrough", "()Z"⟩
abbrev cX5_placeTrough : ByteArray := prog_7_method_9_code
def yX5_placeTrough : MethodName := ⟨RX5, "placeTrough", "(I)I"⟩
abbrev cX5_hasRoomForProbe : ByteArray := prog_7_method_10_code
def yX5_hasRoomForProbe : MethodName := ⟨RX5, "hasRoomForProbe", "()Z"⟩
abbrev cX5_placeProbe : ByteArray := prog_7_method_11_code
def yX5_placeProbe : MethodName := ⟨RX5, "placeProbe", "(III)I"⟩
abbrev cX5_aimAt : ByteArray := prog_7_method_12_code
def yX5_aimAt : MethodName := ⟨RX5, "aimAt", "(II)V"⟩
abbrev cX5_putLeaf : ByteArray := prog_7_method_13_code
def yX5_putLeaf : MethodName := ⟨RX5, "putLeaf", "(LWitheringLoft$Trough;II)V"⟩
abbrev cX5_dischargeLeaf : ByteArray := prog_7_method_14_code
def yX5_dischargeLeaf : MethodName := ⟨RX5, "dischargeLeaf", "(LWitheringLoft$Trough;)I"⟩
abbrev cX5_discardLeaf : ByteArray := prog_7_method_15_code
def yX5_discardLeaf : MethodName := ⟨RX5, "discardLeaf", "(LWitheringLoft$Trough;)I"⟩
abbrev cX5_letHoursPass : ByteArray := prog_7_method_16_code
def yX5_letHoursPass : MethodName := ⟨RX5, "letHoursPass", "(I)V"⟩
abbrev cX5_ageProbes : ByteArray := prog_7_method_17_code
def yX5_ageProbes : MethodName := ⟨RX5, "ageProbes", "()V"⟩
abbrev cX5_isTooDry : ByteArray := prog_7_method_18_code
def yX5_isTooDry : MethodName := ⟨RX5, "isTooDry", "(LWitheringLoft$Trough;)Z"⟩
abbrev cX5_isReady : ByteArray := prog_7_method_19_code
def yX5_isReady : MethodName := ⟨RX5, "isReady", "(LWitheringLoft$Trough;)Z"⟩
abbrev cX5_refusalOf : ByteArray := prog_7_method_20_code
def yX5_refusalOf : MethodName := ⟨RX5, "refusalOf", "(LWitheringLoft$Trough;)I"⟩
abbrev cX5_setOfReady : ByteArray := prog_7_method_21_code
def yX5_setOfReady : MethodName := ⟨RX5, "setOfReady", "()I"⟩
abbrev cX5_readingOf : ByteArray := prog_7_method_24_code
def yX5_readingOf : MethodName := ⟨RX5, "readingOf", "(LWitheringLoft$Probe;)I"⟩
abbrev cX5_countViolations : ByteArray := prog_7_method_26_code
def yX5_countViolations : MethodName := ⟨RX5, "countViolations", "()I"⟩
def RX6 : String := "WitheringLoft$Probe"
def TX6 : u_T := fun k => match k with
  | 0 => ("WitheringLoft$Probe", "trough", "I", false)
  | 1 => ("WitheringLoft$Probe", "layer", "I", false)
  | _ => ("WitheringLoft$Probe", "error", "I", false)
def tyX6 : Nat → FieldType := fun k => match k with
  | 0 => .int
  | 1 => .int
  | _ => .int
theorem nmX6 : ∀ a, a < 3 → ∀ b, b < 3 → a ≠ b → (TX6 a).2.1 ≠ (TX6 b).2.1 := by decide +kernel
theorem tyX6_ok : ∀ k, k < 3 → parseFieldDescriptor (TX6 k).2.2.1 = some (tyX6 k) := by decide +kernel
abbrev cX6_init : ByteArray := prog_8_method_1_code
def yX6_init : MethodName := ⟨RX6, "<init>", "()V"⟩
abbrev cX6_become : ByteArray := prog_8_method_2_code
def yX6_become : MethodName := ⟨RX6, "become", "(LWitheringLoft$Probe;)V"⟩
def RX7 : String := "WitheringLoft$Report"
def TX7 : u_T := fun k => match k with
  | 0 => ("WitheringLoft$Report", "bytes", "[B", true)
  | _ => ("WitheringLoft$Report", "length", "I", false)
def tyX7 : Nat → FieldType := fun k => match k with
  | 0 => .array .byte
  | _ => .int
theorem nmX7 : ∀ a, a < 2 → ∀ b, b < 2 → a ≠ b → (TX7 a).2.1 ≠ (TX7 b).2.1 := by decide +kernel
theorem tyX7_ok : ∀ k, k < 2 → parseFieldDescriptor (TX7 k).2.2.1 = some (tyX7 k) := by decide +kernel
abbrev cX7_init : ByteArray := prog_9_method_1_code
def yX7_init : MethodName := ⟨RX7, "<init>", "()V"⟩
def RX8 : String := "WitheringLoft$Script"
def TX8 : u_T := fun k => match k with
  | 0 => ("WitheringLoft$Script", "text", "LWitheringLoft$Input;", true)
  | 1 => ("WitheringLoft$Script", "draft", "LWitheringLoft$Loft;", true)
  | 2 => ("WitheringLoft$Script", "errorKind", "I", false)
  | 3 => ("WitheringLoft$Script", "errorOffset", "I", false)
  | 4 => ("WitheringLoft$Script", "position", "I", false)
  | 5 => ("WitheringLoft$Script", "token", "LWitheringLoft$Token;", false)
  | 6 => ("WitheringLoft$Script", "tokenStart", "I", false)
  | 7 => ("WitheringLoft$Script", "number", "I", false)
  | 8 => ("WitheringLoft$Script", "operands", "[I", true)
  | 9 => ("WitheringLoft$Script", "operandCount", "I", false)
  | 10 => ("WitheringLoft$Script", "executed", "I", false)
  | 11 => ("WitheringLoft$Script", "depth", "I", false)
  | 12 => ("WitheringLoft$Script", "bodyStarts", "[I", true)
  | _ => ("WitheringLoft$Script", "timesLeft", "[I", true)
def tyX8 : Nat → FieldType := fun k => match k with
  | 0 => .object "WitheringLoft$Input"
  | 1 => .object "WitheringLoft$Loft"
  | 2 => .int
  | 3 => .int
  | 4 => .int
  | 5 => .object "WitheringLoft$Token"
  | 6 => .int
  | 7 => .int
  | 8 => .array .int
  | 9 => .int
  | 10 => .int
  | 11 => .int
  | 12 => .array .int
  | _ => .array .int
theorem nmX8 : ∀ a, a < 14 → ∀ b, b < 14 → a ≠ b → (TX8 a).2.1 ≠ (TX8 b).2.1 := by decide +kernel
theorem tyX8_ok : ∀ k, k < 14 → parseFieldDescriptor (TX8 k).2.2.1 = some (tyX8 k) := by decide +kernel
abbrev cX8_init : ByteArray := prog_10_method_1_code
def yX8_init : MethodName := ⟨RX8, "<init>", "()V"⟩
def RX9 : String := "WitheringLoft$Token"
def TX9 : u_T := fun k => match k with
  | _ => ("", "", "", false)
def tyX9 : Nat → FieldType := fun k => match k with
  | _ => .int
theorem nmX9 : ∀ a, a < 0 → ∀ b, b < 0 → a ≠ b → (TX9 a).2.1 ≠ (TX9 b).2.1 := by decide +kernel
theorem tyX9_ok : ∀ k, k < 0 → parseFieldDescriptor (TX9 k).2.2.1 = some (tyX9 k) := by decide +kernel
def RX10 : String := "WitheringLoft$Trough"
def TX10 : u_T := fun k => match k with
  | 0 => ("WitheringLoft$Trough", "capacity", "I", false)
  | 1 => ("WitheringLoft$Trough", "speed", "I", false)
  | 2 => ("WitheringLoft$Trough", "upwards", "Z", false)
  | 3 => ("WitheringLoft$Trough", "kilograms", "I", false)
  | 4 => ("WitheringLoft$Trough", "fill", "I", false)
  | 5 => ("WitheringLoft$Trough", "weight", "I", false)
  | 6 => ("WitheringLoft$Trough", "bottom", "I", false)
  | 7 => ("WitheringLoft$Trough", "top", "I", false)
  | 8 => ("WitheringLoft$Trough", "warmth", "I", false)
  | _ => ("WitheringLoft$Trough", "damage", "I", false)
def tyX10 : Nat → FieldType := fun k => match k with
  | 0 => .int
  | 1 => .int
  | 2 => .boolean
  | 3 => .int
  | 4 => .int
  | 5 => .int
  | 6 => .int
  | 7 => .int
  | 8 => .int
  | _ => .int
theorem nmX10 : ∀ a, a < 10 → ∀ b, b < 10 → a ≠ b → (TX10 a).2.1 ≠ (TX10 b).2.1 := by decide +kernel
theorem tyX10_ok : ∀ k, k < 10 → parseFieldDescriptor (TX10 k).2.2.1 = some (tyX10 k) := by decide +kernel
abbrev cX10_init : ByteArray := prog_12_method_1_code
def yX10_init : MethodName := ⟨RX10, "<init>", "()V"⟩
abbrev cX10_build : ByteArray := prog_12_method_2_code
def yX10_build : MethodName := ⟨RX10, "build", "(I)V"⟩
abbrev cX10_become : ByteArray := prog_12_method_3_code
def yX10_become : MethodName := ⟨RX10, "become", "(LWitheringLoft$Trough;)V"⟩
abbrev cX10_hasLeaf : ByteArray := prog_12_method_4_code
def yX10_hasLeaf : MethodName := ⟨RX10, "hasLeaf", "()Z"⟩
abbrev cX10_takeLeaf : ByteArray := prog_12_method_5_code
def yX10_takeLeaf : MethodName := ⟨RX10, "takeLeaf", "(II)V"⟩
abbrev cX10_removeLeaf : ByteArray := prog_12_method_6_code
def yX10_removeLeaf : MethodName := ⟨RX10, "removeLeaf", "()V"⟩
abbrev cX10_mixLayers : ByteArray := prog_12_method_7_code
def yX10_mixLayers : MethodName := ⟨RX10, "mixLayers", "()V"⟩
abbrev cX10_moistureOf : ByteArray := prog_12_method_8_code
def yX10_moistureOf : MethodName := ⟨RX10, "moistureOf", "(I)I"⟩
abbrev cX10_gap : ByteArray := prog_12_method_9_code
def yX10_gap : MethodName := ⟨RX10, "gap", "()I"⟩
abbrev cX10_quality : ByteArray := prog_12_method_10_code
def yX10_quality : MethodName := ⟨RX10, "quality", "()I"⟩
abbrev cX10_lossAt : ByteArray := prog_12_method_11_code
def yX10_lossAt : MethodName := ⟨RX10, "lossAt", "(I)I"⟩
abbrev cX10_passHour : ByteArray := prog_12_method_12_code
def yX10_passHour : MethodName := ⟨RX10, "passHour", "(I)I"⟩
abbrev cX10_loseMoisture : ByteArray := prog_12_method_13_code
def yX10_loseMoisture : MethodName := ⟨RX10, "loseMoisture", "(I)I"⟩
abbrev cX10_countViolations : ByteArray := prog_12_method_14_code
def yX10_countViolations : MethodName := ⟨RX10, "countViolations", "()I"⟩
def RX11 : String := "WitheringLoft"
def TX11 : u_T := fun k => match k with
  | 0 => ("WitheringLoft", "loft", "LWitheringLoft$Loft;", true)
  | 1 => ("WitheringLoft", "snapshot", "LWitheringLoft$Loft;", true)
  | 2 => ("WitheringLoft", "snapshotSaved", "Z", false)
  | 3 => ("WitheringLoft", "history", "LWitheringLoft$History;", true)
  | 4 => ("WitheringLoft", "script", "LWitheringLoft$Script;", true)
  | 5 => ("WitheringLoft", "report", "LWitheringLoft$Report;", true)
  | _ => ("WitheringLoft", "trial", "LWitheringLoft$Trough;", true)
def tyX11 : Nat → FieldType := fun k => match k with
  | 0 => .object "WitheringLoft$Loft"
  | 1 => .object "WitheringLoft$Loft"
  | 2 => .boolean
  | 3 => .object "WitheringLoft$History"
  | 4 => .object "WitheringLoft$Script"
  | 5 => .object "WitheringLoft$Report"
  | _ => .object "WitheringLoft$Trough"
theorem nmX11 : ∀ a, a < 7 → ∀ b, b < 7 → a ≠ b → (TX11 a).2.1 ≠ (TX11 b).2.1 := by decide +kernel
theorem tyX11_ok : ∀ k, k < 7 → parseFieldDescriptor (TX11 k).2.2.1 = some (tyX11 k) := by decide +kernel
abbrev cX11_init : ByteArray := prog_1_method_1_code
def yX11_init : MethodName := ⟨RX11, "<init>", "()V"⟩
abbrev cX11_addTrough : ByteArray := prog_1_method_5_code
def yX11_addTrough : MethodName := ⟨RX11, "addTrough", "(I)I"⟩
abbrev cX11_load : ByteArray := prog_1_method_6_code
def yX11_load : MethodName := ⟨RX11, "load", "(III)I"⟩
abbrev cX11_setFan : ByteArray := prog_1_method_7_code
def yX11_setFan : MethodName := ⟨RX11, "setFan", "(II)I"⟩
abbrev cX11_reverse : ByteArray := prog_1_method_8_code
def yX11_reverse : MethodName := ⟨RX11, "reverse", "(I)Z"⟩
abbrev cX11_setHeat : ByteArray := prog_1_method_9_code
def yX11_setHeat : MethodName := ⟨RX11, "setHeat", "(I)I"⟩
abbrev cX11_setHumidity : ByteArray := prog_1_method_10_code
def yX11_setHumidity : MethodName := ⟨RX11, "setHumidity", "(I)I"⟩
abbrev cX11_announceMonsoon : ByteArray := prog_1_method_11_code
def yX11_announceMonsoon : MethodName := ⟨RX11, "announceMonsoon", "(I)I"⟩
abbrev cX11_setTarget : ByteArray := prog_1_method_12_code
def yX11_setTarget : MethodName := ⟨RX11, "setTarget", "(II)I"⟩
abbrev cX11_turnLeaf : ByteArray := prog_1_method_13_code
def yX11_turnLeaf : MethodName := ⟨RX11, "turnLeaf", "(I)I"⟩
abbrev cX11_discharge : ByteArray := prog_1_method_14_code
def yX11_discharge : MethodName := ⟨RX11, "discharge", "(I)I"⟩
abbrev cX11_discard : ByteArray := prog_1_method_15_code
def yX11_discard : MethodName := ⟨RX11, "discard", "(I)I"⟩
abbrev cX11_addProbe : ByteArray := prog_1_method_16_code
def yX11_addProbe : MethodName := ⟨RX11, "addProbe", "(III)I"⟩
abbrev cX11_moveProbe : ByteArray := prog_1_method_17_code
def yX11_moveProbe : MethodName := ⟨RX11, "moveProbe", "(III)I"⟩
abbrev cX11_calibrate : ByteArray := prog_1_method_18_code
def yX11_calibrate : MethodName := ⟨RX11, "calibrate", "(I)I"⟩
abbrev cX11_passHours : ByteArray := prog_1_method_19_code
def yX11_passHours : MethodName := ⟨RX11, "passHours", "(I)I"⟩
abbrev cX11_undo : ByteArray := prog_1_method_20_code
def yX11_undo : MethodName := ⟨RX11, "undo", "()I"⟩
abbrev cX11_undoCount : ByteArray := prog_1_method_21_code
def yX11_undoCount : MethodName := ⟨RX11, "undoCount", "()I"⟩
abbrev cX11_saveSnapshot : ByteArray := prog_1_method_22_code
def yX11_saveSnapshot : MethodName := ⟨RX11, "saveSnapshot", "()I"⟩
abbrev cX11_restoreSnapshot : ByteArray := prog_1_method_23_code
def yX11_restoreSnapshot : MethodName := ⟨RX11, "restoreSnapshot", "()I"⟩
abbrev cX11_hour : ByteArray := prog_1_method_26_code
def yX11_hour : MethodName := ⟨RX11, "hour", "()I"⟩
abbrev cX11_day : ByteArray := prog_1_method_27_code
def yX11_day : MethodName := ⟨RX11, "day", "()I"⟩
abbrev cX11_dryness : ByteArray := prog_1_method_29_code
def yX11_dryness : MethodName := ⟨RX11, "dryness", "()I"⟩
abbrev cX11_hoursToMonsoon : ByteArray := prog_1_method_30_code
def yX11_hoursToMonsoon : MethodName := ⟨RX11, "hoursToMonsoon", "()I"⟩
abbrev cX11_troughCount : ByteArray := prog_1_method_32_code
def yX11_troughCount : MethodName := ⟨RX11, "troughCount", "()I"⟩
abbrev cX11_probeCount : ByteArray := prog_1_method_33_code
def yX11_probeCount : MethodName := ⟨RX11, "probeCount", "()I"⟩
abbrev cX11_capacity : ByteArray := prog_1_method_34_code
def yX11_capacity : MethodName := ⟨RX11, "capacity", "(I)I"⟩
abbrev cX11_kilograms : ByteArray := prog_1_method_35_code
def yX11_kilograms : MethodName := ⟨RX11, "kilograms", "(I)I"⟩
abbrev cX11_fill : ByteArray := prog_1_method_36_code
def yX11_fill : MethodName := ⟨RX11, "fill", "(I)I"⟩
abbrev cX11_speed : ByteArray := prog_1_method_37_code
def yX11_speed : MethodName := ⟨RX11, "speed", "(I)I"⟩
abbrev cX11_isUpwards : ByteArray := prog_1_method_38_code
def yX11_isUpwards : MethodName := ⟨RX11, "isUpwards", "(I)Z"⟩
abbrev cX11_moisture : ByteArray := prog_1_method_39_code
def yX11_moisture : MethodName := ⟨RX11, "moisture", "(II)I"⟩
abbrev cX11_spread : ByteArray := prog_1_method_40_code
def yX11_spread : MethodName := ⟨RX11, "spread", "(I)I"⟩
abbrev cX11_warmth : ByteArray := prog_1_method_41_code
def yX11_warmth : MethodName := ⟨RX11, "warmth", "(I)I"⟩
abbrev cX11_damage : ByteArray := prog_1_method_42_code
def yX11_damage : MethodName := ⟨RX11, "damage", "(I)I"⟩
abbrev cX11_marks : ByteArray := prog_1_method_43_code
def yX11_marks : MethodName := ⟨RX11, "marks", "(I)I"⟩
abbrev cX11_whyNoDischarge : ByteArray := prog_1_method_45_code
def yX11_whyNoDischarge : MethodName := ⟨RX11, "whyNoDischarge", "(I)I"⟩
abbrev cX11_readyTroughs : ByteArray := prog_1_method_46_code
def yX11_readyTroughs : MethodName := ⟨RX11, "readyTroughs", "()I"⟩
abbrev cX11_weight : ByteArray := prog_1_method_47_code
def yX11_weight : MethodName := ⟨RX11, "weight", "(I)I"⟩
abbrev cX11_reading : ByteArray := prog_1_method_48_code
def yX11_reading : MethodName := ⟨RX11, "reading", "(I)I"⟩
abbrev cX11_probeTrough : ByteArray := prog_1_method_49_code
def yX11_probeTrough : MethodName := ⟨RX11, "probeTrough", "(I)I"⟩
abbrev cX11_probeLayer : ByteArray := prog_1_method_50_code
def yX11_probeLayer : MethodName := ⟨RX11, "probeLayer", "(I)I"⟩
abbrev cX11_hoursToReady : ByteArray := prog_1_method_53_code
def yX11_hoursToReady : MethodName := ⟨RX11, "hoursToReady", "(I)I"⟩
abbrev cX11_dischargedKilograms : ByteArray := prog_1_method_57_code
def yX11_dischargedKilograms : MethodName := ⟨RX11, "dischargedKilograms", "()I"⟩
abbrev cX11_discardedKilograms : ByteArray := prog_1_method_58_code
def yX11_discardedKilograms : MethodName := ⟨RX11, "discardedKilograms", "()I"⟩
abbrev cX11_totalWorth : ByteArray := prog_1_method_59_code
def yX11_totalWorth : MethodName := ⟨RX11, "totalWorth", "()I"⟩
abbrev cX11_lostWater : ByteArray := prog_1_method_60_code
def yX11_lostWater : MethodName := ⟨RX11, "lostWater", "()I"⟩
abbrev cX11_violations : ByteArray := prog_1_method_63_code
def yX11_violations : MethodName := ⟨RX11, "violations", "()I"⟩
abbrev cX11_existingTrough : ByteArray := prog_1_method_66_code
def yX11_existingTrough : MethodName := ⟨RX11, "existingTrough", "(I)LWitheringLoft$Trough;"⟩
abbrev cX11_existingProbe : ByteArray := prog_1_method_67_code
def yX11_existingProbe : MethodName := ⟨RX11, "existingProbe", "(I)LWitheringLoft$Probe;"⟩
abbrev cX11_requireRange : ByteArray := prog_1_method_68_code
def yX11_requireRange : MethodName := ⟨RX11, "requireRange", "(III)V"⟩
abbrev cX11_refuseIf : ByteArray := prog_1_method_69_code
def yX11_refuseIf : MethodName := ⟨RX11, "refuseIf", "(Z)V"⟩
abbrev cX11_notBelowLowest : ByteArray := prog_1_method_72_code
def yX11_notBelowLowest : MethodName := ⟨RX11, "notBelowLowest", "(I)I"⟩
def RX12 : String := "WitheringLoftModel"
def TX12 : u_T := fun k => match k with
  | _ => ("", "", "", false)
def tyX12 : Nat → FieldType := fun k => match k with
  | _ => .int
theorem nmX12 : ∀ a, a < 0 → ∀ b, b < 0 → a ≠ b → (TX12 a).2.1 ≠ (TX12 b).2.1 := by decide +kernel
theorem tyX12_ok : ∀ k, k < 0 → parseFieldDescriptor (TX12 k).2.2.1 = some (tyX12 k) := by decide +kernel
def RJx145de : String := "java/io/Serializable"
def TJx145de : u_T := fun k => match k with
  | _ => ("", "", "", false)
def tyJx145de : Nat → FieldType := fun k => match k with
  | _ => .int
theorem nmJx145de : ∀ a, a < 0 → ∀ b, b < 0 → a ≠ b → (TJx145de a).2.1 ≠ (TJx145de b).2.1 := by decide +kernel
theorem tyJx145de_ok : ∀ k, k < 0 → parseFieldDescriptor (TJx145de k).2.2.1 = some (tyJx145de k) := by decide +kernel
def RJx29ce0 : String := "java/lang/Enum"
def TJx29ce0 : u_T := fun k => match k with
  | _ => ("", "", "", false)
def tyJx29ce0 : Nat → FieldType := fun k => match k with
  | _ => .int
theorem nmJx29ce0 : ∀ a, a < 0 → ∀ b, b < 0 → a ≠ b → (TJx29ce0 a).2.1 ≠ (TJx29ce0 b).2.1 := by decide +kernel
theorem tyJx29ce0_ok : ∀ k, k < 0 → parseFieldDescriptor (TJx29ce0 k).2.2.1 = some (tyJx29ce0 k) := by decide +kernel
def RJ6 : String := "java/lang/Integer"
def TJ6 : u_T := fun k => match k with
  | _ => ("", "", "", false)
def tyJ6 : Nat → FieldType := fun k => match k with
  | _ => .int
theorem nmJ6 : ∀ a, a < 0 → ∀ b, b < 0 → a ≠ b → (TJ6 a).2.1 ≠ (TJ6 b).2.1 := by decide +kernel
theorem tyJ6_ok : ∀ k, k < 0 → parseFieldDescriptor (TJ6 k).2.2.1 = some (tyJ6 k) := by decide +kernel
abbrev cJ6_bitCount_0f7a4 : ByteArray := prog_21_method_49_code
def yJ6_bitCount_0f7a4 : MethodName := ⟨RJ6, "bitCount", "(I)I"⟩
def RJ9 : String := "java/lang/Math"
def TJ9 : u_T := fun k => match k with
  | _ => ("", "", "", false)
def tyJ9 : Nat → FieldType := fun k => match k with
  | _ => .int
theorem nmJ9 : ∀ a, a < 0 → ∀ b, b < 0 → a ≠ b → (TJ9 a).2.1 ≠ (TJ9 b).2.1 := by decide +kernel
theorem tyJ9_ok : ∀ k, k < 0 → parseFieldDescriptor (TJ9 k).2.2.1 = some (tyJ9 k) := by decide +kernel
abbrev cJ9_floorMod_7cf53 : ByteArray := prog_22_method_50_code
def yJ9_floorMod_7cf53 : MethodName := ⟨RJ9, "floorMod", "(II)I"⟩
abbrev cJ9_abs_0f7a4 : ByteArray := prog_22_method_59_code
def yJ9_abs_0f7a4 : MethodName := ⟨RJ9, "abs", "(I)I"⟩
abbrev cJ9_max_7cf53 : ByteArray := prog_22_method_65_code
def yJ9_max_7cf53 : MethodName := ⟨RJ9, "max", "(II)I"⟩
def RJ0 : String := "java/lang/String"
def TJ0 : u_T := fun k => match k with
  | _ => ("", "", "", false)
def tyJ0 : Nat → FieldType := fun k => match k with
  | _ => .int
theorem nmJ0 : ∀ a, a < 0 → ∀ b, b < 0 → a ≠ b → (TJ0 a).2.1 ≠ (TJ0 b).2.1 := by decide +kernel
theorem tyJ0_ok : ∀ k, k < 0 → parseFieldDescriptor (TJ0 k).2.2.1 = some (tyJ0 k) := by decide +kernel
def RL : String := "WitheringLoftLaw"
abbrev cL_cell : ByteArray := method_2_code
def yL_cell : MethodName := ⟨RL, "cell", "([II)I"⟩
abbrev cL_deed : ByteArray := method_3_code
def yL_deed : MethodName := ⟨RL, "deed", "(LWitheringLoft;I)V"⟩
abbrev cL_all : ByteArray := method_4_code
def yL_all : MethodName := ⟨RL, "all", "(LWitheringLoft;)J"⟩
abbrev cL_leaf : ByteArray := method_5_code
def yL_leaf : MethodName := ⟨RL, "leaf", "(LWitheringLoft;)I"⟩
abbrev cL_holds : ByteArray := method_6_code
def yL_holds : MethodName := ⟨RL, "holds", "(LWitheringLoft;)Z"⟩
abbrev cL_sum : ByteArray := method_7_code
def yL_sum : MethodName := ⟨RL, "sum", "(LWitheringLoft;)J"⟩
abbrev cL_isWeighed : ByteArray := method_8_code
def yL_isWeighed : MethodName := ⟨RL, "isWeighed", "(LWitheringLoft;I)Z"⟩
abbrev cL_isSame : ByteArray := method_9_code
def yL_isSame : MethodName := ⟨RL, "isSame", "(LWitheringLoft;II)Z"⟩
abbrev cL_law : ByteArray := code
def yL_law : MethodName := ⟨RL, "law", "([I)Z"⟩
abbrev vwCl : List vw_C := [(RX1, TX1, 5), (RX3, TX3, 3), (RX4, TX4, 2), (RX5, TX5, 13), (RX6, TX6, 3), (RX7, TX7, 2), (RX8, TX8, 14), (RX10, TX10, 10), (RX11, TX11, 7)]
end
section
theorem dX1_init_0 : decode cX1_init 0 = .ok (.aload_n 0, 1) := by decide +kernel
theorem dX1_init_1 : decode cX1_init 1 = .ok (.invokespecial 3, 3) := by decide +kernel
theorem dX1_init_4 : decode cX1_init 4 = .ok (.aload_n 0, 1) := by decide +kernel
theorem dX1_init_5 : decode cX1_init 5 = .ok (.iconst 3, 1) := by decide +kernel
theorem dX1_init_6 : decode cX1_init 6 = .ok (.newarray .int, 2) := by decide +kernel
theorem dX1_init_8 : decode cX1_init 8 = .ok (.putfield 9, 3) := by decide +kernel
theorem dX1_init_11 : decode cX1_init 11 = .ok (.return_, 1) := by decide +kernel
theorem dX1_clear_0 : decode cX1_clear 0 = .ok (.aload_n 0, 1) := by decide +kernel
theorem dX1_clear_1 : decode cX1_clear 1 = .ok (.iconst 0, 1) := by decide +kernel
theorem dX1_clear_2 : decode cX1_clear 2 = .ok (.putfield 15, 3) := by decide +kernel
theorem dX1_clear_5 : decode cX1_clear 5 = .ok (.aload_n 0, 1) := by decide +kernel
theorem dX1_clear_6 : decode cX1_clear 6 = .ok (.bipush 60, 2) := by decide +kernel
theorem dX1_clear_8 : decode cX1_clear 8 = .ok (.putfield 19, 3) := by decide +kernel
theorem dX1_clear_11 : decode cX1_clear 11 = .ok (.aload_n 0, 1) := by decide +kernel
theorem dX1_clear_12 : decode cX1_clear 12 = .ok (.iconst 0, 1) := by decide +kernel
theorem dX1_clear_13 : decode cX1_clear 13 = .ok (.putfield 22, 3) := by decide +kernel
theorem dX1_clear_16 : decode cX1_clear 16 = .ok (.aload_n 0, 1) := by decide +kernel
theorem dX1_clear_17 : decode cX1_clear 17 = .ok (.iconst 0, 1) := by decide +kernel
theorem dX1_clear_18 : decode cX1_clear 18 = .ok (.putfield 25, 3) := by decide +kernel
theorem dX1_clear_21 : decode cX1_clear 21 = .ok (.return_, 1) := by decide +kernel
theorem dX1_become_0 : decode cX1_become 0 = .ok (.aload_n 0, 1) := by decide +kernel
theorem dX1_become_1 : decode cX1_become 1 = .ok (.aload_n 1, 1) := by decide +kernel
theorem dX1_become_2 : decode cX1_become 2 = .ok (.getfield 15, 3) := by decide +kernel
theorem dX1_become_5 : decode cX1_become 5 = .ok (.putfield 15, 3) := by decide +kernel
theorem dX1_become_8 : decode cX1_become 8 = .ok (.aload_n 0, 1) := by decide +kernel
theorem dX1_become_9 : decode cX1_become 9 = .ok (.aload_n 1, 1) := by decide +kernel
theorem dX1_become_10 : decode cX1_become 10 = .ok (.getfield 19, 3) := by decide +kernel
theorem dX1_become_13 : decode cX1_become 13 = .ok (.putfield 19, 3) := by decide +kernel
theorem dX1_become_16 : decode cX1_become 16 = .ok (.aload_n 0, 1) := by decide +kernel
theorem dX1_become_17 : decode cX1_become 17 = .ok (.aload_n 1, 1) := by decide +kernel
theorem dX1_become_18 : decode cX1_become 18 = .ok (.getfield 22, 3) := by decide +kernel
theorem dX1_become_21 : decode cX1_become 21 = .ok (.putfield 22, 3) := by decide +kernel
theorem dX1_become_24 : decode cX1_become 24 = .ok (.aload_n 0, 1) := by decide +kernel
theorem dX1_become_25 : decode cX1_become 25 = .ok (.aload_n 1, 1) := by decide +kernel
theorem dX1_become_26 : decode cX1_become 26 = .ok (.getfield 25, 3) := by decide +kernel
theorem dX1_become_29 : decode cX1_become 29 = .ok (.putfield 25, 3) := by decide +kernel
theorem dX1_become_32 : decode cX1_become 32 = .ok (.iconst 0, 1) := by decide +kernel
theorem dX1_become_33 : decode cX1_become 33 = .ok (.istore_n 2, 1) := by decide +kernel
theorem dX1_become_34 : decode cX1_become 34 = .ok (.iload_n 2, 1) := by decide +kernel
theorem dX1_become_35 : decode cX1_become 35 = .ok (.iconst 3, 1) := by decide +kernel
theorem dX1_become_36 : decode cX1_become 36 = .ok (.if_icmp .ge 21, 3) := by decide +kernel
theorem dX1_become_39 : decode cX1_become 39 = .ok (.aload_n 0, 1) := by decide +kernel
theorem dX1_become_40 : decode cX1_become 40 = .ok (.getfield 9, 3) := by decide +kernel
theorem dX1_become_43 : decode cX1_become 43 = .ok (.iload_n 2, 1) := by decide +kernel
theorem dX1_become_44 : decode cX1_become 44 = .ok (.aload_n 1, 1) := by decide +kernel
theorem dX1_become_45 : decode cX1_become 45 = .ok (.getfield 9, 3) := by decide +kernel
theorem dX1_become_48 : decode cX1_become 48 = .ok (.iload_n 2, 1) := by decide +kernel
theorem dX1_become_49 : decode cX1_become 49 = .ok (.iaload, 1) := by decide +kernel
theorem dX1_become_50 : decode cX1_become 50 = .ok (.iastore, 1) := by decide +kernel
theorem dX1_become_51 : decode cX1_become 51 = .ok (.iinc 2 1, 3) := by decide +kernel
theorem dX1_become_54 : decode cX1_become 54 = .ok (.goto (-20), 3) := by decide +kernel
theorem dX1_become_57 : decode cX1_become 57 = .ok (.return_, 1) := by decide +kernel
theorem dX1_presentDay_0 : decode cX1_presentDay 0 = .ok (.aload_n 0, 1) := by decide +kernel
theorem dX1_presentDay_1 : decode cX1_presentDay 1 = .ok (.getfield 15, 3) := by decide +kernel
theorem dX1_presentDay_4 : decode cX1_presentDay 4 = .ok (.bipush 24, 2) := by decide +kernel
theorem dX1_presentDay_6 : decode cX1_presentDay 6 = .ok (.idiv, 1) := by decide +kernel
theorem dX1_presentDay_7 : decode cX1_presentDay 7 = .ok (.ireturn, 1) := by decide +kernel
theorem dX1_hasHoursLeft_0 : decode cX1_hasHoursLeft 0 = .ok (.iload_n 1, 1) := by decide +kernel
theorem dX1_hasHoursLeft_1 : decode cX1_hasHoursLeft 1 = .ok (.sipush 2000, 3) := by decide +kernel
theorem dX1_hasHoursLeft_4 : decode cX1_hasHoursLeft 4 = .ok (.aload_n 0, 1) := by decide +kernel
theorem dX1_hasHoursLeft_5 : decode cX1_hasHoursLeft 5 = .ok (.getfield 15, 3) := by decide +kernel
theorem dX1_hasHoursLeft_8 : decode cX1_hasHoursLeft 8 = .ok (.isub, 1) := by decide +kernel
theorem dX1_hasHoursLeft_9 : decode cX1_hasHoursLeft 9 = .ok (.if_icmp .gt 7, 3) := by decide +kernel
theorem dX1_hasHoursLeft_12 : decode cX1_hasHoursLeft 12 = .ok (.iconst 1, 1) := by decide +kernel
theorem dX1_hasHoursLeft_13 : decode cX1_hasHoursLeft 13 = .ok (.goto 4, 3) := by decide +kernel
theorem dX1_hasHoursLeft_16 : decode cX1_hasHoursLeft 16 = .ok (.iconst 0, 1) := by decide +kernel
theorem dX1_hasHoursLeft_17 : decode cX1_hasHoursLeft 17 = .ok (.ireturn, 1) := by decide +kernel
theorem dX1_hasRoomForMonsoon_0 : decode cX1_hasRoomForMonsoon 0 = .ok (.aload_n 0, 1) := by decide +kernel
theorem dX1_hasRoomForMonsoon_1 : decode cX1_hasRoomForMonsoon 1 = .ok (.getfield 25, 3) := by decide +kernel
theorem dX1_hasRoomForMonsoon_4 : decode cX1_hasRoomForMonsoon 4 = .ok (.iconst 3, 1) := by decide +kernel
theorem dX1_hasRoomForMonsoon_5 : decode cX1_hasRoomForMonsoon 5 = .ok (.if_icmp .ge 7, 3) := by decide +kernel
theorem dX1_hasRoomForMonsoon_8 : decode cX1_hasRoomForMonsoon 8 = .ok (.iconst 1, 1) := by decide +kernel
theorem dX1_hasRoomForMonsoon_9 : decode cX1_hasRoomForMonsoon 9 = .ok (.goto 4, 3) := by decide +kernel
theorem dX1_hasRoomForMonsoon_12 : decode cX1_hasRoomForMonsoon 12 = .ok (.iconst 0, 1) := by decide +kernel
theorem dX1_hasRoomForMonsoon_13 : decode cX1_hasRoomForMonsoon 13 = .ok (.ireturn, 1) := by decide +kernel
theorem dX1_addMonsoon_0 : decode cX1_addMonsoon 0 = .ok (.aload_n 0, 1) := by decide +kernel
theorem dX1_addMonsoon_1 : decode cX1_addMonsoon 1 = .ok (.getfield 25, 3) := by decide +kernel
theorem dX1_addMonsoon_4 : decode cX1_addMonsoon 4 = .ok (.ifCond .lt 31, 3) := by decide +kernel
theorem dX1_addMonsoon_7 : decode cX1_addMonsoon 7 = .ok (.aload_n 0, 1) := by decide +kernel
theorem dX1_addMonsoon_8 : decode cX1_addMonsoon 8 = .ok (.getfield 25, 3) := by decide +kernel
theorem dX1_addMonsoon_11 : decode cX1_addMonsoon 11 = .ok (.iconst 3, 1) := by decide +kernel
theorem dX1_addMonsoon_12 : decode cX1_addMonsoon 12 = .ok (.if_icmp .ge 23, 3) := by decide +kernel
theorem dX1_addMonsoon_15 : decode cX1_addMonsoon 15 = .ok (.aload_n 0, 1) := by decide +kernel
theorem dX1_addMonsoon_16 : decode cX1_addMonsoon 16 = .ok (.getfield 9, 3) := by decide +kernel
theorem dX1_addMonsoon_19 : decode cX1_addMonsoon 19 = .ok (.aload_n 0, 1) := by decide +kernel
theorem dX1_addMonsoon_20 : decode cX1_addMonsoon 20 = .ok (.getfield 25, 3) := by decide +kernel
theorem dX1_addMonsoon_23 : decode cX1_addMonsoon 23 = .ok (.iload_n 1, 1) := by decide +kernel
theorem dX1_addMonsoon_24 : decode cX1_addMonsoon 24 = .ok (.iastore, 1) := by decide +kernel
theorem dX1_addMonsoon_25 : decode cX1_addMonsoon 25 = .ok (.aload_n 0, 1) := by decide +kernel
theorem dX1_addMonsoon_26 : decode cX1_addMonsoon 26 = .ok (.dup, 1) := by decide +kernel
theorem dX1_addMonsoon_27 : decode cX1_addMonsoon 27 = .ok (.getfield 25, 3) := by decide +kernel
theorem dX1_addMonsoon_30 : decode cX1_addMonsoon 30 = .ok (.iconst 1, 1) := by decide +kernel
theorem dX1_addMonsoon_31 : decode cX1_addMonsoon 31 = .ok (.iadd, 1) := by decide +kernel
theorem dX1_addMonsoon_32 : decode cX1_addMonsoon 32 = .ok (.putfield 25, 3) := by decide +kernel
theorem dX1_addMonsoon_35 : decode cX1_addMonsoon 35 = .ok (.return_, 1) := by decide +kernel
theorem dX1_hasMonsoonAt_0 : decode cX1_hasMonsoonAt 0 = .ok (.iconst 0, 1) := by decide +kernel
theorem dX1_hasMonsoonAt_1 : decode cX1_hasMonsoonAt 1 = .ok (.istore_n 2, 1) := by decide +kernel
theorem dX1_hasMonsoonAt_2 : decode cX1_hasMonsoonAt 2 = .ok (.iload_n 2, 1) := by decide +kernel
theorem dX1_hasMonsoonAt_3 : decode cX1_hasMonsoonAt 3 = .ok (.aload_n 0, 1) := by decide +kernel
theorem dX1_hasMonsoonAt_4 : decode cX1_hasMonsoonAt 4 = .ok (.getfield 25, 3) := by decide +kernel
theorem dX1_hasMonsoonAt_7 : decode cX1_hasMonsoonAt 7 = .ok (.if_icmp .ge 39, 3) := by decide +kernel
theorem dX1_hasMonsoonAt_10 : decode cX1_hasMonsoonAt 10 = .ok (.iload_n 2, 1) := by decide +kernel
theorem dX1_hasMonsoonAt_11 : decode cX1_hasMonsoonAt 11 = .ok (.iconst 3, 1) := by decide +kernel
theorem dX1_hasMonsoonAt_12 : decode cX1_hasMonsoonAt 12 = .ok (.if_icmp .ge 34, 3) := by decide +kernel
theorem dX1_hasMonsoonAt_15 : decode cX1_hasMonsoonAt 15 = .ok (.iload_n 1, 1) := by decide +kernel
theorem dX1_hasMonsoonAt_16 : decode cX1_hasMonsoonAt 16 = .ok (.aload_n 0, 1) := by decide +kernel
theorem dX1_hasMonsoonAt_17 : decode cX1_hasMonsoonAt 17 = .ok (.getfield 9, 3) := by decide +kernel
theorem dX1_hasMonsoonAt_20 : decode cX1_hasMonsoonAt 20 = .ok (.iload_n 2, 1) := by decide +kernel
theorem dX1_hasMonsoonAt_21 : decode cX1_hasMonsoonAt 21 = .ok (.iaload, 1) := by decide +kernel
theorem dX1_hasMonsoonAt_22 : decode cX1_hasMonsoonAt 22 = .ok (.bipush 24, 2) := by decide +kernel
theorem dX1_hasMonsoonAt_24 : decode cX1_hasMonsoonAt 24 = .ok (.imul, 1) := by decide +kernel
theorem dX1_hasMonsoonAt_25 : decode cX1_hasMonsoonAt 25 = .ok (.isub, 1) := by decide +kernel
theorem dX1_hasMonsoonAt_26 : decode cX1_hasMonsoonAt 26 = .ok (.istore_n 3, 1) := by decide +kernel
theorem dX1_hasMonsoonAt_27 : decode cX1_hasMonsoonAt 27 = .ok (.iload_n 3, 1) := by decide +kernel
theorem dX1_hasMonsoonAt_28 : decode cX1_hasMonsoonAt 28 = .ok (.ifCond .lt 12, 3) := by decide +kernel
theorem dX1_hasMonsoonAt_31 : decode cX1_hasMonsoonAt 31 = .ok (.iload_n 3, 1) := by decide +kernel
theorem dX1_hasMonsoonAt_32 : decode cX1_hasMonsoonAt 32 = .ok (.sipush 168, 3) := by decide +kernel
theorem dX1_hasMonsoonAt_35 : decode cX1_hasMonsoonAt 35 = .ok (.if_icmp .ge 5, 3) := by decide +kernel
theorem dX1_hasMonsoonAt_38 : decode cX1_hasMonsoonAt 38 = .ok (.iconst 1, 1) := by decide +kernel
theorem dX1_hasMonsoonAt_39 : decode cX1_hasMonsoonAt 39 = .ok (.ireturn, 1) := by decide +kernel
theorem dX1_hasMonsoonAt_40 : decode cX1_hasMonsoonAt 40 = .ok (.iinc 2 1, 3) := by decide +kernel
theorem dX1_hasMonsoonAt_43 : decode cX1_hasMonsoonAt 43 = .ok (.goto (-41), 3) := by decide +kernel
theorem dX1_hasMonsoonAt_46 : decode cX1_hasMonsoonAt 46 = .ok (.iconst 0, 1) := by decide +kernel
theorem dX1_hasMonsoonAt_47 : decode cX1_hasMonsoonAt 47 = .ok (.ireturn, 1) := by decide +kernel
theorem dX1_hoursToNextMonsoon_0 : decode cX1_hoursToNextMonsoon 0 = .ok (.iconst (-1), 1) := by decide +kernel
theorem dX1_hoursToNextMonsoon_1 : decode cX1_hoursToNextMonsoon 1 = .ok (.istore_n 1, 1) := by decide +kernel
theorem dX1_hoursToNextMonsoon_2 : decode cX1_hoursToNextMonsoon 2 = .ok (.iconst 0, 1) := by decide +kernel
theorem dX1_hoursToNextMonsoon_3 : decode cX1_hoursToNextMonsoon 3 = .ok (.istore_n 2, 1) := by decide +kernel
theorem dX1_hoursToNextMonsoon_4 : decode cX1_hoursToNextMonsoon 4 = .ok (.iload_n 2, 1) := by decide +kernel
theorem dX1_hoursToNextMonsoon_5 : decode cX1_hoursToNextMonsoon 5 = .ok (.aload_n 0, 1) := by decide +kernel
theorem dX1_hoursToNextMonsoon_6 : decode cX1_hoursToNextMonsoon 6 = .ok (.getfield 25, 3) := by decide +kernel
theorem dX1_hoursToNextMonsoon_9 : decode cX1_hoursToNextMonsoon 9 = .ok (.if_icmp .ge 45, 3) := by decide +kernel
theorem dX1_hoursToNextMonsoon_12 : decode cX1_hoursToNextMonsoon 12 = .ok (.iload_n 2, 1) := by decide +kernel
theorem dX1_hoursToNextMonsoon_13 : decode cX1_hoursToNextMonsoon 13 = .ok (.iconst 3, 1) := by decide +kernel
theorem dX1_hoursToNextMonsoon_14 : decode cX1_hoursToNextMonsoon 14 = .ok (.if_icmp .ge 40, 3) := by decide +kernel
theorem dX1_hoursToNextMonsoon_17 : decode cX1_hoursToNextMonsoon 17 = .ok (.aload_n 0, 1) := by decide +kernel
theorem dX1_hoursToNextMonsoon_18 : decode cX1_hoursToNextMonsoon 18 = .ok (.getfield 9, 3) := by decide +kernel
theorem dX1_hoursToNextMonsoon_21 : decode cX1_hoursToNextMonsoon 21 = .ok (.iload_n 2, 1) := by decide +kernel
theorem dX1_hoursToNextMonsoon_22 : decode cX1_hoursToNextMonsoon 22 = .ok (.iaload, 1) := by decide +kernel
theorem dX1_hoursToNextMonsoon_23 : decode cX1_hoursToNextMonsoon 23 = .ok (.bipush 24, 2) := by decide +kernel
theorem dX1_hoursToNextMonsoon_25 : decode cX1_hoursToNextMonsoon 25 = .ok (.imul, 1) := by decide +kernel
theorem dX1_hoursToNextMonsoon_26 : decode cX1_hoursToNextMonsoon 26 = .ok (.aload_n 0, 1) := by decide +kernel
theorem dX1_hoursToNextMonsoon_27 : decode cX1_hoursToNextMonsoon 27 = .ok (.getfield 15, 3) := by decide +kernel
theorem dX1_hoursToNextMonsoon_30 : decode cX1_hoursToNextMonsoon 30 = .ok (.isub, 1) := by decide +kernel
theorem dX1_hoursToNextMonsoon_31 : decode cX1_hoursToNextMonsoon 31 = .ok (.istore_n 3, 1) := by decide +kernel
theorem dX1_hoursToNextMonsoon_32 : decode cX1_hoursToNextMonsoon 32 = .ok (.iload_n 3, 1) := by decide +kernel
theorem dX1_hoursToNextMonsoon_33 : decode cX1_hoursToNextMonsoon 33 = .ok (.ifCond .le 15, 3) := by decide +kernel
theorem dX1_hoursToNextMonsoon_36 : decode cX1_hoursToNextMonsoon 36 = .ok (.iload_n 1, 1) := by decide +kernel
theorem dX1_hoursToNextMonsoon_37 : decode cX1_hoursToNextMonsoon 37 = .ok (.iconst (-1), 1) := by decide +kernel
theorem dX1_hoursToNextMonsoon_38 : decode cX1_hoursToNextMonsoon 38 = .ok (.if_icmp .eq 8, 3) := by decide +kernel
theorem dX1_hoursToNextMonsoon_41 : decode cX1_hoursToNextMonsoon 41 = .ok (.iload_n 3, 1) := by decide +kernel
theorem dX1_hoursToNextMonsoon_42 : decode cX1_hoursToNextMonsoon 42 = .ok (.iload_n 1, 1) := by decide +kernel
theorem dX1_hoursToNextMonsoon_43 : decode cX1_hoursToNextMonsoon 43 = .ok (.if_icmp .ge 5, 3) := by decide +kernel
theorem dX1_hoursToNextMonsoon_46 : decode cX1_hoursToNextMonsoon 46 = .ok (.iload_n 3, 1) := by decide +kernel
theorem dX1_hoursToNextMonsoon_47 : decode cX1_hoursToNextMonsoon 47 = .ok (.istore_n 1, 1) := by decide +kernel
theorem dX1_hoursToNextMonsoon_48 : decode cX1_hoursToNextMonsoon 48 = .ok (.iinc 2 1, 3) := by decide +kernel
theorem dX1_hoursToNextMonsoon_51 : decode cX1_hoursToNextMonsoon 51 = .ok (.goto (-47), 3) := by decide +kernel
theorem dX1_hoursToNextMonsoon_54 : decode cX1_hoursToNextMonsoon 54 = .ok (.iload_n 1, 1) := by decide +kernel
theorem dX1_hoursToNextMonsoon_55 : decode cX1_hoursToNextMonsoon 55 = .ok (.ireturn, 1) := by decide +kernel
theorem dX1_humidityOf_0 : decode cX1_humidityOf 0 = .ok (.aload_n 0, 1) := by decide +kernel
theorem dX1_humidityOf_1 : decode cX1_humidityOf 1 = .ok (.iload_n 1, 1) := by decide +kernel
theorem dX1_humidityOf_2 : decode cX1_humidityOf 2 = .ok (.invokevirtual 28, 3) := by decide +kernel
theorem dX1_humidityOf_5 : decode cX1_humidityOf 5 = .ok (.ifCond .eq 8, 3) := by decide +kernel
theorem dX1_humidityOf_8 : decode cX1_humidityOf 8 = .ok (.bipush 95, 2) := by decide +kernel
theorem dX1_humidityOf_10 : decode cX1_humidityOf 10 = .ok (.goto 7, 3) := by decide +kernel
theorem dX1_humidityOf_13 : decode cX1_humidityOf 13 = .ok (.aload_n 0, 1) := by decide +kernel
theorem dX1_humidityOf_14 : decode cX1_humidityOf 14 = .ok (.getfield 19, 3) := by decide +kernel
theorem dX1_humidityOf_17 : decode cX1_humidityOf 17 = .ok (.ireturn, 1) := by decide +kernel
theorem dX1_drynessOf_0 : decode cX1_drynessOf 0 = .ok (.bipush 100, 2) := by decide +kernel
theorem dX1_drynessOf_2 : decode cX1_drynessOf 2 = .ok (.aload_n 0, 1) := by decide +kernel
theorem dX1_drynessOf_3 : decode cX1_drynessOf 3 = .ok (.iload_n 1, 1) := by decide +kernel
theorem dX1_drynessOf_4 : decode cX1_drynessOf 4 = .ok (.invokevirtual 32, 3) := by decide +kernel
theorem dX1_drynessOf_7 : decode cX1_drynessOf 7 = .ok (.isub, 1) := by decide +kernel
theorem dX1_drynessOf_8 : decode cX1_drynessOf 8 = .ok (.iconst 5, 1) := by decide +kernel
theorem dX1_drynessOf_9 : decode cX1_drynessOf 9 = .ok (.aload_n 0, 1) := by decide +kernel
theorem dX1_drynessOf_10 : decode cX1_drynessOf 10 = .ok (.getfield 22, 3) := by decide +kernel
theorem dX1_drynessOf_13 : decode cX1_drynessOf 13 = .ok (.imul, 1) := by decide +kernel
theorem dX1_drynessOf_14 : decode cX1_drynessOf 14 = .ok (.iadd, 1) := by decide +kernel
theorem dX1_drynessOf_15 : decode cX1_drynessOf 15 = .ok (.ireturn, 1) := by decide +kernel
theorem dX3_init_0 : decode cX3_init 0 = .ok (.aload_n 0, 1) := by decide +kernel
theorem dX3_init_1 : decode cX3_init 1 = .ok (.invokespecial 3, 3) := by decide +kernel
theorem dX3_init_4 : decode cX3_init 4 = .ok (.aload_n 0, 1) := by decide +kernel
theorem dX3_init_5 : decode cX3_init 5 = .ok (.bipush 8, 2) := by decide +kernel
theorem dX3_init_7 : decode cX3_init 7 = .ok (.anewarray 9, 3) := by decide +kernel
theorem dX3_init_10 : decode cX3_init 10 = .ok (.putfield 11, 3) := by decide +kernel
theorem dX3_init_13 : decode cX3_init 13 = .ok (.iconst 0, 1) := by decide +kernel
theorem dX3_init_14 : decode cX3_init 14 = .ok (.istore_n 1, 1) := by decide +kernel
theorem dX3_init_15 : decode cX3_init 15 = .ok (.iload_n 1, 1) := by decide +kernel
theorem dX3_init_16 : decode cX3_init 16 = .ok (.bipush 8, 2) := by decide +kernel
theorem dX3_init_18 : decode cX3_init 18 = .ok (.if_icmp .ge 22, 3) := by decide +kernel
theorem dX3_init_21 : decode cX3_init 21 = .ok (.aload_n 0, 1) := by decide +kernel
theorem dX3_init_22 : decode cX3_init 22 = .ok (.getfield 11, 3) := by decide +kernel
theorem dX3_init_25 : decode cX3_init 25 = .ok (.iload_n 1, 1) := by decide +kernel
theorem dX3_init_26 : decode cX3_init 26 = .ok (.new 9, 3) := by decide +kernel
theorem dX3_init_29 : decode cX3_init 29 = .ok (.dup, 1) := by decide +kernel
theorem dX3_init_30 : decode cX3_init 30 = .ok (.invokespecial 17, 3) := by decide +kernel
theorem dX3_init_33 : decode cX3_init 33 = .ok (.aastore, 1) := by decide +kernel
theorem dX3_init_34 : decode cX3_init 34 = .ok (.iinc 1 1, 3) := by decide +kernel
theorem dX3_init_37 : decode cX3_init 37 = .ok (.goto (-22), 3) := by decide +kernel
theorem dX3_init_40 : decode cX3_init 40 = .ok (.return_, 1) := by decide +kernel
theorem dX3_remember_0 : decode cX3_remember 0 = .ok (.aload_n 0, 1) := by decide +kernel
theorem dX3_remember_1 : decode cX3_remember 1 = .ok (.getfield 11, 3) := by decide +kernel
theorem dX3_remember_4 : decode cX3_remember 4 = .ok (.aload_n 0, 1) := by decide +kernel
theorem dX3_remember_5 : decode cX3_remember 5 = .ok (.getfield 18, 3) := by decide +kernel
theorem dX3_remember_8 : decode cX3_remember 8 = .ok (.bipush 8, 2) := by decide +kernel
theorem dX3_remember_10 : decode cX3_remember 10 = .ok (.invokestatic 22, 3) := by decide +kernel
theorem dX3_remember_13 : decode cX3_remember 13 = .ok (.aaload, 1) := by decide +kernel
theorem dX3_remember_14 : decode cX3_remember 14 = .ok (.aload_n 1, 1) := by decide +kernel
theorem dX3_remember_15 : decode cX3_remember 15 = .ok (.invokevirtual 28, 3) := by decide +kernel
theorem dX3_remember_18 : decode cX3_remember 18 = .ok (.aload_n 0, 1) := by decide +kernel
theorem dX3_remember_19 : decode cX3_remember 19 = .ok (.aload_n 0, 1) := by decide +kernel
theorem dX3_remember_20 : decode cX3_remember 20 = .ok (.getfield 18, 3) := by decide +kernel
theorem dX3_remember_23 : decode cX3_remember 23 = .ok (.iconst 1, 1) := by decide +kernel
theorem dX3_remember_24 : decode cX3_remember 24 = .ok (.iadd, 1) := by decide +kernel
theorem dX3_remember_25 : decode cX3_remember 25 = .ok (.bipush 8, 2) := by decide +kernel
theorem dX3_remember_27 : decode cX3_remember 27 = .ok (.invokestatic 22, 3) := by decide +kernel
theorem dX3_remember_30 : decode cX3_remember 30 = .ok (.putfield 18, 3) := by decide +kernel
theorem dX3_remember_33 : decode cX3_remember 33 = .ok (.aload_n 0, 1) := by decide +kernel
theorem dX3_remember_34 : decode cX3_remember 34 = .ok (.getfield 32, 3) := by decide +kernel
theorem dX3_remember_37 : decode cX3_remember 37 = .ok (.bipush 8, 2) := by decide +kernel
theorem dX3_remember_39 : decode cX3_remember 39 = .ok (.if_icmp .ge 13, 3) := by decide +kernel
theorem dX3_remember_42 : decode cX3_remember 42 = .ok (.aload_n 0, 1) := by decide +kernel
theorem dX3_remember_43 : decode cX3_remember 43 = .ok (.dup, 1) := by decide +kernel
theorem dX3_remember_44 : decode cX3_remember 44 = .ok (.getfield 32, 3) := by decide +kernel
theorem dX3_remember_47 : decode cX3_remember 47 = .ok (.iconst 1, 1) := by decide +kernel
theorem dX3_remember_48 : decode cX3_remember 48 = .ok (.iadd, 1) := by decide +kernel
theorem dX3_remember_49 : decode cX3_remember 49 = .ok (.putfield 32, 3) := by decide +kernel
theorem dX3_remember_52 : decode cX3_remember 52 = .ok (.return_, 1) := by decide +kernel
theorem dX3_takeBack_0 : decode cX3_takeBack 0 = .ok (.aload_n 0, 1) := by decide +kernel
theorem dX3_takeBack_1 : decode cX3_takeBack 1 = .ok (.aload_n 0, 1) := by decide +kernel
theorem dX3_takeBack_2 : decode cX3_takeBack 2 = .ok (.getfield 18, 3) := by decide +kernel
theorem dX3_takeBack_5 : decode cX3_takeBack 5 = .ok (.iconst 1, 1) := by decide +kernel
theorem dX3_takeBack_6 : decode cX3_takeBack 6 = .ok (.isub, 1) := by decide +kernel
theorem dX3_takeBack_7 : decode cX3_takeBack 7 = .ok (.bipush 8, 2) := by decide +kernel
theorem dX3_takeBack_9 : decode cX3_takeBack 9 = .ok (.invokestatic 22, 3) := by decide +kernel
theorem dX3_takeBack_12 : decode cX3_takeBack 12 = .ok (.putfield 18, 3) := by decide +kernel
theorem dX3_takeBack_15 : decode cX3_takeBack 15 = .ok (.aload_n 1, 1) := by decide +kernel
theorem dX3_takeBack_16 : decode cX3_takeBack 16 = .ok (.aload_n 0, 1) := by decide +kernel
theorem dX3_takeBack_17 : decode cX3_takeBack 17 = .ok (.getfield 11, 3) := by decide +kernel
theorem dX3_takeBack_20 : decode cX3_takeBack 20 = .ok (.aload_n 0, 1) := by decide +kernel
theorem dX3_takeBack_21 : decode cX3_takeBack 21 = .ok (.getfield 18, 3) := by decide +kernel
theorem dX3_takeBack_24 : decode cX3_takeBack 24 = .ok (.aaload, 1) := by decide +kernel
theorem dX3_takeBack_25 : decode cX3_takeBack 25 = .ok (.invokevirtual 28, 3) := by decide +kernel
theorem dX3_takeBack_28 : decode cX3_takeBack 28 = .ok (.aload_n 0, 1) := by decide +kernel
theorem dX3_takeBack_29 : decode cX3_takeBack 29 = .ok (.dup, 1) := by decide +kernel
theorem dX3_takeBack_30 : decode cX3_takeBack 30 = .ok (.getfield 32, 3) := by decide +kernel
theorem dX3_takeBack_33 : decode cX3_takeBack 33 = .ok (.iconst 1, 1) := by decide +kernel
theorem dX3_takeBack_34 : decode cX3_takeBack 34 = .ok (.isub, 1) := by decide +kernel
theorem dX3_takeBack_35 : decode cX3_takeBack 35 = .ok (.putfield 32, 3) := by decide +kernel
theorem dX3_takeBack_38 : decode cX3_takeBack 38 = .ok (.return_, 1) := by decide +kernel
theorem dX4_init_0 : decode cX4_init 0 = .ok (.aload_n 0, 1) := by decide +kernel
theorem dX4_init_1 : decode cX4_init 1 = .ok (.invokespecial 3, 3) := by decide +kernel
theorem dX4_init_4 : decode cX4_init 4 = .ok (.aload_n 0, 1) := by decide +kernel
theorem dX4_init_5 : decode cX4_init 5 = .ok (.sipush 600, 3) := by decide +kernel
theorem dX4_init_8 : decode cX4_init 8 = .ok (.newarray .byte, 2) := by decide +kernel
theorem dX4_init_10 : decode cX4_init 10 = .ok (.putfield 9, 3) := by decide +kernel
theorem dX4_init_13 : decode cX4_init 13 = .ok (.return_, 1) := by decide +kernel
theorem dX5_init_0 : decode cX5_init 0 = .ok (.aload_n 0, 1) := by decide +kernel
theorem dX5_init_1 : decode cX5_init 1 = .ok (.invokespecial 3, 3) := by decide +kernel
theorem dX5_init_4 : decode cX5_init 4 = .ok (.aload_n 0, 1) := by decide +kernel
theorem dX5_init_5 : decode cX5_init 5 = .ok (.new 9, 3) := by decide +kernel
theorem dX5_init_8 : decode cX5_init 8 = .ok (.dup, 1) := by decide +kernel
theorem dX5_init_9 : decode cX5_init 9 = .ok (.invokespecial 11, 3) := by decide +kernel
theorem dX5_init_12 : decode cX5_init 12 = .ok (.putfield 12, 3) := by decide +kernel
theorem dX5_init_15 : decode cX5_init 15 = .ok (.aload_n 0, 1) := by decide +kernel
theorem dX5_init_16 : decode cX5_init 16 = .ok (.bipush 8, 2) := by decide +kernel
theorem dX5_init_18 : decode cX5_init 18 = .ok (.anewarray 18, 3) := by decide +kernel
theorem dX5_init_21 : decode cX5_init 21 = .ok (.putfield 20, 3) := by decide +kernel
theorem dX5_init_24 : decode cX5_init 24 = .ok (.aload_n 0, 1) := by decide +kernel
theorem dX5_init_25 : decode cX5_init 25 = .ok (.bipush 6, 2) := by decide +kernel
theorem dX5_init_27 : decode cX5_init 27 = .ok (.anewarray 24, 3) := by decide +kernel
theorem dX5_init_30 : decode cX5_init 30 = .ok (.putfield 26, 3) := by decide +kernel
theorem dX5_init_33 : decode cX5_init 33 = .ok (.iconst 0, 1) := by decide +kernel
theorem dX5_init_34 : decode cX5_init 34 = .ok (.istore_n 1, 1) := by decide +kernel
theorem dX5_init_35 : decode cX5_init 35 = .ok (.iload_n 1, 1) := by decide +kernel
theorem dX5_init_36 : decode cX5_init 36 = .ok (.bipush 8, 2) := by decide +kernel
theorem dX5_init_38 : decode cX5_init 38 = .ok (.if_icmp .ge 22, 3) := by decide +kernel
theorem dX5_init_41 : decode cX5_init 41 = .ok (.aload_n 0, 1) := by decide +kernel
theorem dX5_init_42 : decode cX5_init 42 = .ok (.getfield 20, 3) := by decide +kernel
theorem dX5_init_45 : decode cX5_init 45 = .ok (.iload_n 1, 1) := by decide +kernel
theorem dX5_init_46 : decode cX5_init 46 = .ok (.new 18, 3) := by decide +kernel
theorem dX5_init_49 : decode cX5_init 49 = .ok (.dup, 1) := by decide +kernel
theorem dX5_init_50 : decode cX5_init 50 = .ok (.invokespecial 30, 3) := by decide +kernel
theorem dX5_init_53 : decode cX5_init 53 = .ok (.aastore, 1) := by decide +kernel
theorem dX5_init_54 : decode cX5_init 54 = .ok (.iinc 1 1, 3) := by decide +kernel
theorem dX5_init_57 : decode cX5_init 57 = .ok (.goto (-22), 3) := by decide +kernel
theorem dX5_init_60 : decode cX5_init 60 = .ok (.iconst 0, 1) := by decide +kernel
theorem dX5_init_61 : decode cX5_init 61 = .ok (.istore_n 1, 1) := by decide +kernel
theorem dX5_init_62 : decode cX5_init 62 = .ok (.iload_n 1, 1) := by decide +kernel
theorem dX5_init_63 : decode cX5_init 63 = .ok (.bipush 6, 2) := by decide +kernel
theorem dX5_init_65 : decode cX5_init 65 = .ok (.if_icmp .ge 22, 3) := by decide +kernel
theorem dX5_init_68 : decode cX5_init 68 = .ok (.aload_n 0, 1) := by decide +kernel
theorem dX5_init_69 : decode cX5_init 69 = .ok (.getfield 26, 3) := by decide +kernel
theorem dX5_init_72 : decode cX5_init 72 = .ok (.iload_n 1, 1) := by decide +kernel
theorem dX5_init_73 : decode cX5_init 73 = .ok (.new 24, 3) := by decide +kernel
theorem dX5_init_76 : decode cX5_init 76 = .ok (.dup, 1) := by decide +kernel
theorem dX5_init_77 : decode cX5_init 77 = .ok (.invokespecial 31, 3) := by decide +kernel
theorem dX5_init_80 : decode cX5_init 80 = .ok (.aastore, 1) := by decide +kernel
theorem dX5_init_81 : decode cX5_init 81 = .ok (.iinc 1 1, 3) := by decide +kernel
theorem dX5_init_84 : decode cX5_init 84 = .ok (.goto (-22), 3) := by decide +kernel
theorem dX5_init_87 : decode cX5_init 87 = .ok (.aload_n 0, 1) := by decide +kernel
theorem dX5_init_88 : decode cX5_init 88 = .ok (.invokevirtual 32, 3) := by decide +kernel
theorem dX5_init_91 : decode cX5_init 91 = .ok (.return_, 1) := by decide +kernel
theorem dX5_clear_0 : decode cX5_clear 0 = .ok (.aload_n 0, 1) := by decide +kernel
theorem dX5_clear_1 : decode cX5_clear 1 = .ok (.getfield 12, 3) := by decide +kernel
theorem dX5_clear_4 : decode cX5_clear 4 = .ok (.invokevirtual 35, 3) := by decide +kernel
theorem dX5_clear_7 : decode cX5_clear 7 = .ok (.iconst 0, 1) := by decide +kernel
theorem dX5_clear_8 : decode cX5_clear 8 = .ok (.istore_n 1, 1) := by decide +kernel
theorem dX5_clear_9 : decode cX5_clear 9 = .ok (.iload_n 1, 1) := by decide +kernel
theorem dX5_clear_10 : decode cX5_clear 10 = .ok (.bipush 8, 2) := by decide +kernel
theorem dX5_clear_12 : decode cX5_clear 12 = .ok (.if_icmp .ge 19, 3) := by decide +kernel
theorem dX5_clear_15 : decode cX5_clear 15 = .ok (.aload_n 0, 1) := by decide +kernel
theorem dX5_clear_16 : decode cX5_clear 16 = .ok (.getfield 20, 3) := by decide +kernel
theorem dX5_clear_19 : decode cX5_clear 19 = .ok (.iload_n 1, 1) := by decide +kernel
theorem dX5_clear_20 : decode cX5_clear 20 = .ok (.aaload, 1) := by decide +kernel
theorem dX5_clear_21 : decode cX5_clear 21 = .ok (.iconst 0, 1) := by decide +kernel
theorem dX5_clear_22 : decode cX5_clear 22 = .ok (.invokevirtual 36, 3) := by decide +kernel
theorem dX5_clear_25 : decode cX5_clear 25 = .ok (.iinc 1 1, 3) := by decide +kernel
theorem dX5_clear_28 : decode cX5_clear 28 = .ok (.goto (-19), 3) := by decide +kernel
theorem dX5_clear_31 : decode cX5_clear 31 = .ok (.aload_n 0, 1) := by decide +kernel
theorem dX5_clear_32 : decode cX5_clear 32 = .ok (.iconst 0, 1) := by decide +kernel
theorem dX5_clear_33 : decode cX5_clear 33 = .ok (.putfield 40, 3) := by decide +kernel
theorem dX5_clear_36 : decode cX5_clear 36 = .ok (.aload_n 0, 1) := by decide +kernel
theorem dX5_clear_37 : decode cX5_clear 37 = .ok (.iconst 0, 1) := by decide +kernel
theorem dX5_clear_38 : decode cX5_clear 38 = .ok (.putfield 44, 3) := by decide +kernel
theorem dX5_clear_41 : decode cX5_clear 41 = .ok (.aload_n 0, 1) := by decide +kernel
theorem dX5_clear_42 : decode cX5_clear 42 = .ok (.sipush 580, 3) := by decide +kernel
theorem dX5_clear_45 : decode cX5_clear 45 = .ok (.putfield 47, 3) := by decide +kernel
theorem dX5_clear_48 : decode cX5_clear 48 = .ok (.aload_n 0, 1) := by decide +kernel
theorem dX5_clear_49 : decode cX5_clear 49 = .ok (.bipush 20, 2) := by decide +kernel
theorem dX5_clear_51 : decode cX5_clear 51 = .ok (.putfield 50, 3) := by decide +kernel
theorem dX5_clear_54 : decode cX5_clear 54 = .ok (.aload_n 0, 1) := by decide +kernel
theorem dX5_clear_55 : decode cX5_clear 55 = .ok (.iconst 0, 1) := by decide +kernel
theorem dX5_clear_56 : decode cX5_clear 56 = .ok (.putfield 53, 3) := by decide +kernel
theorem dX5_clear_59 : decode cX5_clear 59 = .ok (.aload_n 0, 1) := by decide +kernel
theorem dX5_clear_60 : decode cX5_clear 60 = .ok (.iconst 0, 1) := by decide +kernel
theorem dX5_clear_61 : decode cX5_clear 61 = .ok (.putfield 56, 3) := by decide +kernel
theorem dX5_clear_64 : decode cX5_clear 64 = .ok (.aload_n 0, 1) := by decide +kernel
theorem dX5_clear_65 : decode cX5_clear 65 = .ok (.iconst 0, 1) := by decide +kernel
theorem dX5_clear_66 : decode cX5_clear 66 = .ok (.putfield 59, 3) := by decide +kernel
theorem dX5_clear_69 : decode cX5_clear 69 = .ok (.aload_n 0, 1) := by decide +kernel
theorem dX5_clear_70 : decode cX5_clear 70 = .ok (.iconst 0, 1) := by decide +kernel
theorem dX5_clear_71 : decode cX5_clear 71 = .ok (.putfield 62, 3) := by decide +kernel
theorem dX5_clear_74 : decode cX5_clear 74 = .ok (.aload_n 0, 1) := by decide +kernel
theorem dX5_clear_75 : decode cX5_clear 75 = .ok (.iconst 0, 1) := by decide +kernel
theorem dX5_clear_76 : decode cX5_clear 76 = .ok (.putfield 65, 3) := by decide +kernel
theorem dX5_clear_79 : decode cX5_clear 79 = .ok (.aload_n 0, 1) := by decide +kernel
theorem dX5_clear_80 : decode cX5_clear 80 = .ok (.iconst 0, 1) := by decide +kernel
theorem dX5_clear_81 : decode cX5_clear 81 = .ok (.putfield 68, 3) := by decide +kernel
theorem dX5_clear_84 : decode cX5_clear 84 = .ok (.return_, 1) := by decide +kernel
theorem dX5_become_0 : decode cX5_become 0 = .ok (.aload_n 0, 1) := by decide +kernel
theorem dX5_become_1 : decode cX5_become 1 = .ok (.getfield 12, 3) := by decide +kernel
theorem dX5_become_4 : decode cX5_become 4 = .ok (.aload_n 1, 1) := by decide +kernel
theorem dX5_become_5 : decode cX5_become 5 = .ok (.getfield 12, 3) := by decide +kernel
theorem dX5_become_8 : decode cX5_become 8 = .ok (.invokevirtual 71, 3) := by decide +kernel
theorem dX5_become_11 : decode cX5_become 11 = .ok (.iconst 0, 1) := by decide +kernel
theorem dX5_become_12 : decode cX5_become 12 = .ok (.istore_n 2, 1) := by decide +kernel
theorem dX5_become_13 : decode cX5_become 13 = .ok (.iload_n 2, 1) := by decide +kernel
theorem dX5_become_14 : decode cX5_become 14 = .ok (.bipush 8, 2) := by decide +kernel
theorem dX5_become_16 : decode cX5_become 16 = .ok (.if_icmp .ge 24, 3) := by decide +kernel
theorem dX5_become_19 : decode cX5_become 19 = .ok (.aload_n 0, 1) := by decide +kernel
theorem dX5_become_20 : decode cX5_become 20 = .ok (.getfield 20, 3) := by decide +kernel
theorem dX5_become_23 : decode cX5_become 23 = .ok (.iload_n 2, 1) := by decide +kernel
theorem dX5_become_24 : decode cX5_become 24 = .ok (.aaload, 1) := by decide +kernel
theorem dX5_become_25 : decode cX5_become 25 = .ok (.aload_n 1, 1) := by decide +kernel
theorem dX5_become_26 : decode cX5_become 26 = .ok (.getfield 20, 3) := by decide +kernel
theorem dX5_become_29 : decode cX5_become 29 = .ok (.iload_n 2, 1) := by decide +kernel
theorem dX5_become_30 : decode cX5_become 30 = .ok (.aaload, 1) := by decide +kernel
theorem dX5_become_31 : decode cX5_become 31 = .ok (.invokevirtual 75, 3) := by decide +kernel
theorem dX5_become_34 : decode cX5_become 34 = .ok (.iinc 2 1, 3) := by decide +kernel
theorem dX5_become_37 : decode cX5_become 37 = .ok (.goto (-24), 3) := by decide +kernel
theorem dX5_become_40 : decode cX5_become 40 = .ok (.aload_n 0, 1) := by decide +kernel
theorem dX5_become_41 : decode cX5_become 41 = .ok (.aload_n 1, 1) := by decide +kernel
theorem dX5_become_42 : decode cX5_become 42 = .ok (.getfield 40, 3) := by decide +kernel
theorem dX5_become_45 : decode cX5_become 45 = .ok (.putfield 40, 3) := by decide +kernel
theorem dX5_become_48 : decode cX5_become 48 = .ok (.iconst 0, 1) := by decide +kernel
theorem dX5_become_49 : decode cX5_become 49 = .ok (.istore_n 2, 1) := by decide +kernel
theorem dX5_become_50 : decode cX5_become 50 = .ok (.iload_n 2, 1) := by decide +kernel
theorem dX5_become_51 : decode cX5_become 51 = .ok (.bipush 6, 2) := by decide +kernel
theorem dX5_become_53 : decode cX5_become 53 = .ok (.if_icmp .ge 24, 3) := by decide +kernel
theorem dX5_become_56 : decode cX5_become 56 = .ok (.aload_n 0, 1) := by decide +kernel
theorem dX5_become_57 : decode cX5_become 57 = .ok (.getfield 26, 3) := by decide +kernel
theorem dX5_become_60 : decode cX5_become 60 = .ok (.iload_n 2, 1) := by decide +kernel
theorem dX5_become_61 : decode cX5_become 61 = .ok (.aaload, 1) := by decide +kernel
theorem dX5_become_62 : decode cX5_become 62 = .ok (.aload_n 1, 1) := by decide +kernel
theorem dX5_become_63 : decode cX5_become 63 = .ok (.getfield 26, 3) := by decide +kernel
theorem dX5_become_66 : decode cX5_become 66 = .ok (.iload_n 2, 1) := by decide +kernel
theorem dX5_become_67 : decode cX5_become 67 = .ok (.aaload, 1) := by decide +kernel
theorem dX5_become_68 : decode cX5_become 68 = .ok (.invokevirtual 78, 3) := by decide +kernel
theorem dX5_become_71 : decode cX5_become 71 = .ok (.iinc 2 1, 3) := by decide +kernel
theorem dX5_become_74 : decode cX5_become 74 = .ok (.goto (-24), 3) := by decide +kernel
theorem dX5_become_77 : decode cX5_become 77 = .ok (.aload_n 0, 1) := by decide +kernel
theorem dX5_become_78 : decode cX5_become 78 = .ok (.aload_n 1, 1) := by decide +kernel
theorem dX5_become_79 : decode cX5_become 79 = .ok (.getfield 44, 3) := by decide +kernel
theorem dX5_become_82 : decode cX5_become 82 = .ok (.putfield 44, 3) := by decide +kernel
theorem dX5_become_85 : decode cX5_become 85 = .ok (.aload_n 0, 1) := by decide +kernel
theorem dX5_become_86 : decode cX5_become 86 = .ok (.aload_n 1, 1) := by decide +kernel
theorem dX5_become_87 : decode cX5_become 87 = .ok (.getfield 47, 3) := by decide +kernel
theorem dX5_become_90 : decode cX5_become 90 = .ok (.putfield 47, 3) := by decide +kernel
theorem dX5_become_93 : decode cX5_become 93 = .ok (.aload_n 0, 1) := by decide +kernel
theorem dX5_become_94 : decode cX5_become 94 = .ok (.aload_n 1, 1) := by decide +kernel
theorem dX5_become_95 : decode cX5_become 95 = .ok (.getfield 50, 3) := by decide +kernel
theorem dX5_become_98 : decode cX5_become 98 = .ok (.putfield 50, 3) := by decide +kernel
theorem dX5_become_101 : decode cX5_become 101 = .ok (.aload_n 0, 1) := by decide +kernel
theorem dX5_become_102 : decode cX5_become 102 = .ok (.aload_n 1, 1) := by decide +kernel
theorem dX5_become_103 : decode cX5_become 103 = .ok (.getfield 53, 3) := by decide +kernel
theorem dX5_become_106 : decode cX5_become 106 = .ok (.putfield 53, 3) := by decide +kernel
theorem dX5_become_109 : decode cX5_become 109 = .ok (.aload_n 0, 1) := by decide +kernel
theorem dX5_become_110 : decode cX5_become 110 = .ok (.aload_n 1, 1) := by decide +kernel
theorem dX5_become_111 : decode cX5_become 111 = .ok (.getfield 56, 3) := by decide +kernel
theorem dX5_become_114 : decode cX5_become 114 = .ok (.putfield 56, 3) := by decide +kernel
theorem dX5_become_117 : decode cX5_become 117 = .ok (.aload_n 0, 1) := by decide +kernel
theorem dX5_become_118 : decode cX5_become 118 = .ok (.aload_n 1, 1) := by decide +kernel
theorem dX5_become_119 : decode cX5_become 119 = .ok (.getfield 59, 3) := by decide +kernel
theorem dX5_become_122 : decode cX5_become 122 = .ok (.putfield 59, 3) := by decide +kernel
theorem dX5_become_125 : decode cX5_become 125 = .ok (.aload_n 0, 1) := by decide +kernel
theorem dX5_become_126 : decode cX5_become 126 = .ok (.aload_n 1, 1) := by decide +kernel
theorem dX5_become_127 : decode cX5_become 127 = .ok (.getfield 62, 3) := by decide +kernel
theorem dX5_become_130 : decode cX5_become 130 = .ok (.putfield 62, 3) := by decide +kernel
theorem dX5_become_133 : decode cX5_become 133 = .ok (.aload_n 0, 1) := by decide +kernel
theorem dX5_become_134 : decode cX5_become 134 = .ok (.aload_n 1, 1) := by decide +kernel
theorem dX5_become_135 : decode cX5_become 135 = .ok (.getfield 65, 3) := by decide +kernel
theorem dX5_become_138 : decode cX5_become 138 = .ok (.putfield 65, 3) := by decide +kernel
theorem dX5_become_141 : decode cX5_become 141 = .ok (.aload_n 0, 1) := by decide +kernel
theorem dX5_become_142 : decode cX5_become 142 = .ok (.aload_n 1, 1) := by decide +kernel
theorem dX5_become_143 : decode cX5_become 143 = .ok (.getfield 68, 3) := by decide +kernel
theorem dX5_become_146 : decode cX5_become 146 = .ok (.putfield 68, 3) := by decide +kernel
theorem dX5_become_149 : decode cX5_become 149 = .ok (.return_, 1) := by decide +kernel
theorem dX5_hasTrough_0 : decode cX5_hasTrough 0 = .ok (.iload_n 1, 1) := by decide +kernel
theorem dX5_hasTrough_1 : decode cX5_hasTrough 1 = .ok (.ifCond .lt 15, 3) := by decide +kernel
theorem dX5_hasTrough_4 : decode cX5_hasTrough 4 = .ok (.iload_n 1, 1) := by decide +kernel
theorem dX5_hasTrough_5 : decode cX5_hasTrough 5 = .ok (.aload_n 0, 1) := by decide +kernel
theorem dX5_hasTrough_6 : decode cX5_hasTrough 6 = .ok (.getfield 40, 3) := by decide +kernel
theorem dX5_hasTrough_9 : decode cX5_hasTrough 9 = .ok (.if_icmp .ge 7, 3) := by decide +kernel
theorem dX5_hasTrough_12 : decode cX5_hasTrough 12 = .ok (.iconst 1, 1) := by decide +kernel
theorem dX5_hasTrough_13 : decode cX5_hasTrough 13 = .ok (.goto 4, 3) := by decide +kernel
theorem dX5_hasTrough_16 : decode cX5_hasTrough 16 = .ok (.iconst 0, 1) := by decide +kernel
theorem dX5_hasTrough_17 : decode cX5_hasTrough 17 = .ok (.ireturn, 1) := by decide +kernel
theorem dX5_troughAt_0 : decode cX5_troughAt 0 = .ok (.iload_n 1, 1) := by decide +kernel
theorem dX5_troughAt_1 : decode cX5_troughAt 1 = .ok (.ifCond .lt 18, 3) := by decide +kernel
theorem dX5_troughAt_4 : decode cX5_troughAt 4 = .ok (.iload_n 1, 1) := by decide +kernel
theorem dX5_troughAt_5 : decode cX5_troughAt 5 = .ok (.bipush 8, 2) := by decide +kernel
theorem dX5_troughAt_7 : decode cX5_troughAt 7 = .ok (.if_icmp .ge 12, 3) := by decide +kernel
theorem dX5_troughAt_10 : decode cX5_troughAt 10 = .ok (.aload_n 0, 1) := by decide +kernel
theorem dX5_troughAt_11 : decode cX5_troughAt 11 = .ok (.getfield 20, 3) := by decide +kernel
theorem dX5_troughAt_14 : decode cX5_troughAt 14 = .ok (.iload_n 1, 1) := by decide +kernel
theorem dX5_troughAt_15 : decode cX5_troughAt 15 = .ok (.aaload, 1) := by decide +kernel
theorem dX5_troughAt_16 : decode cX5_troughAt 16 = .ok (.goto 9, 3) := by decide +kernel
theorem dX5_troughAt_19 : decode cX5_troughAt 19 = .ok (.aload_n 0, 1) := by decide +kernel
theorem dX5_troughAt_20 : decode cX5_troughAt 20 = .ok (.getfield 20, 3) := by decide +kernel
theorem dX5_troughAt_23 : decode cX5_troughAt 23 = .ok (.iconst 0, 1) := by decide +kernel
theorem dX5_troughAt_24 : decode cX5_troughAt 24 = .ok (.aaload, 1) := by decide +kernel
theorem dX5_troughAt_25 : decode cX5_troughAt 25 = .ok (.areturn, 1) := by decide +kernel
theorem dX5_hasProbe_0 : decode cX5_hasProbe 0 = .ok (.iload_n 1, 1) := by decide +kernel
theorem dX5_hasProbe_1 : decode cX5_hasProbe 1 = .ok (.ifCond .lt 15, 3) := by decide +kernel
theorem dX5_hasProbe_4 : decode cX5_hasProbe 4 = .ok (.iload_n 1, 1) := by decide +kernel
theorem dX5_hasProbe_5 : decode cX5_hasProbe 5 = .ok (.aload_n 0, 1) := by decide +kernel
theorem dX5_hasProbe_6 : decode cX5_hasProbe 6 = .ok (.getfield 44, 3) := by decide +kernel
theorem dX5_hasProbe_9 : decode cX5_hasProbe 9 = .ok (.if_icmp .ge 7, 3) := by decide +kernel
theorem dX5_hasProbe_12 : decode cX5_hasProbe 12 = .ok (.iconst 1, 1) := by decide +kernel
theorem dX5_hasProbe_13 : decode cX5_hasProbe 13 = .ok (.goto 4, 3) := by decide +kernel
theorem dX5_hasProbe_16 : decode cX5_hasProbe 16 = .ok (.iconst 0, 1) := by decide +kernel
theorem dX5_hasProbe_17 : decode cX5_hasProbe 17 = .ok (.ireturn, 1) := by decide +kernel
theorem dX5_probeAt_0 : decode cX5_probeAt 0 = .ok (.iload_n 1, 1) := by decide +kernel
theorem dX5_probeAt_1 : decode cX5_probeAt 1 = .ok (.ifCond .lt 18, 3) := by decide +kernel
theorem dX5_probeAt_4 : decode cX5_probeAt 4 = .ok (.iload_n 1, 1) := by decide +kernel
theorem dX5_probeAt_5 : decode cX5_probeAt 5 = .ok (.bipush 6, 2) := by decide +kernel
theorem dX5_probeAt_7 : decode cX5_probeAt 7 = .ok (.if_icmp .ge 12, 3) := by decide +kernel
theorem dX5_probeAt_10 : decode cX5_probeAt 10 = .ok (.aload_n 0, 1) := by decide +kernel
theorem dX5_probeAt_11 : decode cX5_probeAt 11 = .ok (.getfield 26, 3) := by decide +kernel
theorem dX5_probeAt_14 : decode cX5_probeAt 14 = .ok (.iload_n 1, 1) := by decide +kernel
theorem dX5_probeAt_15 : decode cX5_probeAt 15 = .ok (.aaload, 1) := by decide +kernel
theorem dX5_probeAt_16 : decode cX5_probeAt 16 = .ok (.goto 9, 3) := by decide +kernel
theorem dX5_probeAt_19 : decode cX5_probeAt 19 = .ok (.aload_n 0, 1) := by decide +kernel
theorem dX5_probeAt_20 : decode cX5_probeAt 20 = .ok (.getfield 26, 3) := by decide +kernel
theorem dX5_probeAt_23 : decode cX5_probeAt 23 = .ok (.iconst 0, 1) := by decide +kernel
theorem dX5_probeAt_24 : decode cX5_probeAt 24 = .ok (.aaload, 1) := by decide +kernel
theorem dX5_probeAt_25 : decode cX5_probeAt 25 = .ok (.areturn, 1) := by decide +kernel
theorem dX5_hasRoomForTrough_0 : decode cX5_hasRoomForTrough 0 = .ok (.aload_n 0, 1) := by decide +kernel
theorem dX5_hasRoomForTrough_1 : decode cX5_hasRoomForTrough 1 = .ok (.getfield 40, 3) := by decide +kernel
theorem dX5_hasRoomForTrough_4 : decode cX5_hasRoomForTrough 4 = .ok (.bipush 8, 2) := by decide +kernel
theorem dX5_hasRoomForTrough_6 : decode cX5_hasRoomForTrough 6 = .ok (.if_icmp .ge 7, 3) := by decide +kernel
theorem dX5_hasRoomForTrough_9 : decode cX5_hasRoomForTrough 9 = .ok (.iconst 1, 1) := by decide +kernel
theorem dX5_hasRoomForTrough_10 : decode cX5_hasRoomForTrough 10 = .ok (.goto 4, 3) := by decide +kernel
theorem dX5_hasRoomForTrough_13 : decode cX5_hasRoomForTrough 13 = .ok (.iconst 0, 1) := by decide +kernel
theorem dX5_hasRoomForTrough_14 : decode cX5_hasRoomForTrough 14 = .ok (.ireturn, 1) := by decide +kernel
theorem dX5_placeTrough_0 : decode cX5_placeTrough 0 = .ok (.aload_n 0, 1) := by decide +kernel
theorem dX5_placeTrough_1 : decode cX5_placeTrough 1 = .ok (.aload_n 0, 1) := by decide +kernel
theorem dX5_placeTrough_2 : decode cX5_placeTrough 2 = .ok (.getfield 40, 3) := by decide +kernel
theorem dX5_placeTrough_5 : decode cX5_placeTrough 5 = .ok (.invokevirtual 81, 3) := by decide +kernel
theorem dX5_placeTrough_8 : decode cX5_placeTrough 8 = .ok (.iload_n 1, 1) := by decide +kernel
theorem dX5_placeTrough_9 : decode cX5_placeTrough 9 = .ok (.invokevirtual 36, 3) := by decide +kernel
theorem dX5_placeTrough_12 : decode cX5_placeTrough 12 = .ok (.aload_n 0, 1) := by decide +kernel
theorem dX5_placeTrough_13 : decode cX5_placeTrough 13 = .ok (.dup, 1) := by decide +kernel
theorem dX5_placeTrough_14 : decode cX5_placeTrough 14 = .ok (.getfield 40, 3) := by decide +kernel
theorem dX5_placeTrough_17 : decode cX5_placeTrough 17 = .ok (.iconst 1, 1) := by decide +kernel
theorem dX5_placeTrough_18 : decode cX5_placeTrough 18 = .ok (.iadd, 1) := by decide +kernel
theorem dX5_placeTrough_19 : decode cX5_placeTrough 19 = .ok (.putfield 40, 3) := by decide +kernel
theorem dX5_placeTrough_22 : decode cX5_placeTrough 22 = .ok (.aload_n 0, 1) := by decide +kernel
theorem dX5_placeTrough_23 : decode cX5_placeTrough 23 = .ok (.getfield 40, 3) := by decide +kernel
theorem dX5_placeTrough_26 : decode cX5_placeTrough 26 = .ok (.iconst 1, 1) := by decide +kernel
theorem dX5_placeTrough_27 : decode cX5_placeTrough 27 = .ok (.isub, 1) := by decide +kernel
theorem dX5_placeTrough_28 : decode cX5_placeTrough 28 = .ok (.ireturn, 1) := by decide +kernel
theorem dX5_hasRoomForProbe_0 : decode cX5_hasRoomForProbe 0 = .ok (.aload_n 0, 1) := by decide +kernel
theorem dX5_hasRoomForProbe_1 : decode cX5_hasRoomForProbe 1 = .ok (.getfield 44, 3) := by decide +kernel
theorem dX5_hasRoomForProbe_4 : decode cX5_hasRoomForProbe 4 = .ok (.bipush 6, 2) := by decide +kernel
theorem dX5_hasRoomForProbe_6 : decode cX5_hasRoomForProbe 6 = .ok (.if_icmp .ge 7, 3) := by decide +kernel
theorem dX5_hasRoomForProbe_9 : decode cX5_hasRoomForProbe 9 = .ok (.iconst 1, 1) := by decide +kernel
theorem dX5_hasRoomForProbe_10 : decode cX5_hasRoomForProbe 10 = .ok (.goto 4, 3) := by decide +kernel
theorem dX5_hasRoomForProbe_13 : decode cX5_hasRoomForProbe 13 = .ok (.iconst 0, 1) := by decide +kernel
theorem dX5_hasRoomForProbe_14 : decode cX5_hasRoomForProbe 14 = .ok (.ireturn, 1) := by decide +kernel
theorem dX5_placeProbe_0 : decode cX5_placeProbe 0 = .ok (.aload_n 0, 1) := by decide +kernel
theorem dX5_placeProbe_1 : decode cX5_placeProbe 1 = .ok (.aload_n 0, 1) := by decide +kernel
theorem dX5_placeProbe_2 : decode cX5_placeProbe 2 = .ok (.getfield 44, 3) := by decide +kernel
theorem dX5_placeProbe_5 : decode cX5_placeProbe 5 = .ok (.invokevirtual 85, 3) := by decide +kernel
theorem dX5_placeProbe_8 : decode cX5_placeProbe 8 = .ok (.astore 4, 2) := by decide +kernel
theorem dX5_placeProbe_10 : decode cX5_placeProbe 10 = .ok (.aload 4, 2) := by decide +kernel
theorem dX5_placeProbe_12 : decode cX5_placeProbe 12 = .ok (.iload_n 1, 1) := by decide +kernel
theorem dX5_placeProbe_13 : decode cX5_placeProbe 13 = .ok (.putfield 89, 3) := by decide +kernel
theorem dX5_placeProbe_16 : decode cX5_placeProbe 16 = .ok (.aload 4, 2) := by decide +kernel
theorem dX5_placeProbe_18 : decode cX5_placeProbe 18 = .ok (.iload_n 2, 1) := by decide +kernel
theorem dX5_placeProbe_19 : decode cX5_placeProbe 19 = .ok (.putfield 92, 3) := by decide +kernel
theorem dX5_placeProbe_22 : decode cX5_placeProbe 22 = .ok (.aload 4, 2) := by decide +kernel
theorem dX5_placeProbe_24 : decode cX5_placeProbe 24 = .ok (.iload_n 3, 1) := by decide +kernel
theorem dX5_placeProbe_25 : decode cX5_placeProbe 25 = .ok (.putfield 95, 3) := by decide +kernel
theorem dX5_placeProbe_28 : decode cX5_placeProbe 28 = .ok (.aload_n 0, 1) := by decide +kernel
theorem dX5_placeProbe_29 : decode cX5_placeProbe 29 = .ok (.dup, 1) := by decide +kernel
theorem dX5_placeProbe_30 : decode cX5_placeProbe 30 = .ok (.getfield 44, 3) := by decide +kernel
theorem dX5_placeProbe_33 : decode cX5_placeProbe 33 = .ok (.iconst 1, 1) := by decide +kernel
theorem dX5_placeProbe_34 : decode cX5_placeProbe 34 = .ok (.iadd, 1) := by decide +kernel
theorem dX5_placeProbe_35 : decode cX5_placeProbe 35 = .ok (.putfield 44, 3) := by decide +kernel
theorem dX5_placeProbe_38 : decode cX5_placeProbe 38 = .ok (.aload_n 0, 1) := by decide +kernel
theorem dX5_placeProbe_39 : decode cX5_placeProbe 39 = .ok (.getfield 44, 3) := by decide +kernel
theorem dX5_placeProbe_42 : decode cX5_placeProbe 42 = .ok (.iconst 1, 1) := by decide +kernel
theorem dX5_placeProbe_43 : decode cX5_placeProbe 43 = .ok (.isub, 1) := by decide +kernel
theorem dX5_placeProbe_44 : decode cX5_placeProbe 44 = .ok (.ireturn, 1) := by decide +kernel
theorem dX5_aimAt_0 : decode cX5_aimAt 0 = .ok (.aload_n 0, 1) := by decide +kernel
theorem dX5_aimAt_1 : decode cX5_aimAt 1 = .ok (.iload_n 1, 1) := by decide +kernel
theorem dX5_aimAt_2 : decode cX5_aimAt 2 = .ok (.putfield 47, 3) := by decide +kernel
theorem dX5_aimAt_5 : decode cX5_aimAt 5 = .ok (.aload_n 0, 1) := by decide +kernel
theorem dX5_aimAt_6 : decode cX5_aimAt 6 = .ok (.iload_n 2, 1) := by decide +kernel
theorem dX5_aimAt_7 : decode cX5_aimAt 7 = .ok (.putfield 50, 3) := by decide +kernel
theorem dX5_aimAt_10 : decode cX5_aimAt 10 = .ok (.return_, 1) := by decide +kernel
theorem dX5_putLeaf_0 : decode cX5_putLeaf 0 = .ok (.aload_n 1, 1) := by decide +kernel
theorem dX5_putLeaf_1 : decode cX5_putLeaf 1 = .ok (.iload_n 2, 1) := by decide +kernel
theorem dX5_putLeaf_2 : decode cX5_putLeaf 2 = .ok (.iload_n 3, 1) := by decide +kernel
theorem dX5_putLeaf_3 : decode cX5_putLeaf 3 = .ok (.invokevirtual 98, 3) := by decide +kernel
theorem dX5_putLeaf_6 : decode cX5_putLeaf 6 = .ok (.aload_n 0, 1) := by decide +kernel
theorem dX5_putLeaf_7 : decode cX5_putLeaf 7 = .ok (.dup, 1) := by decide +kernel
theorem dX5_putLeaf_8 : decode cX5_putLeaf 8 = .ok (.getfield 53, 3) := by decide +kernel
theorem dX5_putLeaf_11 : decode cX5_putLeaf 11 = .ok (.iload_n 2, 1) := by decide +kernel
theorem dX5_putLeaf_12 : decode cX5_putLeaf 12 = .ok (.iadd, 1) := by decide +kernel
theorem dX5_putLeaf_13 : decode cX5_putLeaf 13 = .ok (.putfield 53, 3) := by decide +kernel
theorem dX5_putLeaf_16 : decode cX5_putLeaf 16 = .ok (.return_, 1) := by decide +kernel
theorem dX5_dischargeLeaf_0 : decode cX5_dischargeLeaf 0 = .ok (.aload_n 1, 1) := by decide +kernel
theorem dX5_dischargeLeaf_1 : decode cX5_dischargeLeaf 1 = .ok (.getfield 102, 3) := by decide +kernel
theorem dX5_dischargeLeaf_4 : decode cX5_dischargeLeaf 4 = .ok (.aload_n 1, 1) := by decide +kernel
theorem dX5_dischargeLeaf_5 : decode cX5_dischargeLeaf 5 = .ok (.invokevirtual 105, 3) := by decide +kernel
theorem dX5_dischargeLeaf_8 : decode cX5_dischargeLeaf 8 = .ok (.imul, 1) := by decide +kernel
theorem dX5_dischargeLeaf_9 : decode cX5_dischargeLeaf 9 = .ok (.bipush 100, 2) := by decide +kernel
theorem dX5_dischargeLeaf_11 : decode cX5_dischargeLeaf 11 = .ok (.idiv, 1) := by decide +kernel
theorem dX5_dischargeLeaf_12 : decode cX5_dischargeLeaf 12 = .ok (.istore_n 2, 1) := by decide +kernel
theorem dX5_dischargeLeaf_13 : decode cX5_dischargeLeaf 13 = .ok (.aload_n 0, 1) := by decide +kernel
theorem dX5_dischargeLeaf_14 : decode cX5_dischargeLeaf 14 = .ok (.dup, 1) := by decide +kernel
theorem dX5_dischargeLeaf_15 : decode cX5_dischargeLeaf 15 = .ok (.getfield 65, 3) := by decide +kernel
theorem dX5_dischargeLeaf_18 : decode cX5_dischargeLeaf 18 = .ok (.iload_n 2, 1) := by decide +kernel
theorem dX5_dischargeLeaf_19 : decode cX5_dischargeLeaf 19 = .ok (.iadd, 1) := by decide +kernel
theorem dX5_dischargeLeaf_20 : decode cX5_dischargeLeaf 20 = .ok (.putfield 65, 3) := by decide +kernel
theorem dX5_dischargeLeaf_23 : decode cX5_dischargeLeaf 23 = .ok (.aload_n 0, 1) := by decide +kernel
theorem dX5_dischargeLeaf_24 : decode cX5_dischargeLeaf 24 = .ok (.dup, 1) := by decide +kernel
theorem dX5_dischargeLeaf_25 : decode cX5_dischargeLeaf 25 = .ok (.getfield 56, 3) := by decide +kernel
theorem dX5_dischargeLeaf_28 : decode cX5_dischargeLeaf 28 = .ok (.aload_n 1, 1) := by decide +kernel
theorem dX5_dischargeLeaf_29 : decode cX5_dischargeLeaf 29 = .ok (.getfield 102, 3) := by decide +kernel
theorem dX5_dischargeLeaf_32 : decode cX5_dischargeLeaf 32 = .ok (.iadd, 1) := by decide +kernel
theorem dX5_dischargeLeaf_33 : decode cX5_dischargeLeaf 33 = .ok (.putfield 56, 3) := by decide +kernel
theorem dX5_dischargeLeaf_36 : decode cX5_dischargeLeaf 36 = .ok (.aload_n 0, 1) := by decide +kernel
theorem dX5_dischargeLeaf_37 : decode cX5_dischargeLeaf 37 = .ok (.dup, 1) := by decide +kernel
theorem dX5_dischargeLeaf_38 : decode cX5_dischargeLeaf 38 = .ok (.getfield 62, 3) := by decide +kernel
theorem dX5_dischargeLeaf_41 : decode cX5_dischargeLeaf 41 = .ok (.aload_n 1, 1) := by decide +kernel
theorem dX5_dischargeLeaf_42 : decode cX5_dischargeLeaf 42 = .ok (.getfield 109, 3) := by decide +kernel
theorem dX5_dischargeLeaf_45 : decode cX5_dischargeLeaf 45 = .ok (.iadd, 1) := by decide +kernel
theorem dX5_dischargeLeaf_46 : decode cX5_dischargeLeaf 46 = .ok (.putfield 62, 3) := by decide +kernel
theorem dX5_dischargeLeaf_49 : decode cX5_dischargeLeaf 49 = .ok (.aload_n 1, 1) := by decide +kernel
theorem dX5_dischargeLeaf_50 : decode cX5_dischargeLeaf 50 = .ok (.invokevirtual 112, 3) := by decide +kernel
theorem dX5_dischargeLeaf_53 : decode cX5_dischargeLeaf 53 = .ok (.iload_n 2, 1) := by decide +kernel
theorem dX5_dischargeLeaf_54 : decode cX5_dischargeLeaf 54 = .ok (.ireturn, 1) := by decide +kernel
theorem dX5_discardLeaf_0 : decode cX5_discardLeaf 0 = .ok (.aload_n 1, 1) := by decide +kernel
theorem dX5_discardLeaf_1 : decode cX5_discardLeaf 1 = .ok (.getfield 102, 3) := by decide +kernel
theorem dX5_discardLeaf_4 : decode cX5_discardLeaf 4 = .ok (.istore_n 2, 1) := by decide +kernel
theorem dX5_discardLeaf_5 : decode cX5_discardLeaf 5 = .ok (.aload_n 0, 1) := by decide +kernel
theorem dX5_discardLeaf_6 : decode cX5_discardLeaf 6 = .ok (.dup, 1) := by decide +kernel
theorem dX5_discardLeaf_7 : decode cX5_discardLeaf 7 = .ok (.getfield 59, 3) := by decide +kernel
theorem dX5_discardLeaf_10 : decode cX5_discardLeaf 10 = .ok (.iload_n 2, 1) := by decide +kernel
theorem dX5_discardLeaf_11 : decode cX5_discardLeaf 11 = .ok (.iadd, 1) := by decide +kernel
theorem dX5_discardLeaf_12 : decode cX5_discardLeaf 12 = .ok (.putfield 59, 3) := by decide +kernel
theorem dX5_discardLeaf_15 : decode cX5_discardLeaf 15 = .ok (.aload_n 0, 1) := by decide +kernel
theorem dX5_discardLeaf_16 : decode cX5_discardLeaf 16 = .ok (.dup, 1) := by decide +kernel
theorem dX5_discardLeaf_17 : decode cX5_discardLeaf 17 = .ok (.getfield 62, 3) := by decide +kernel
theorem dX5_discardLeaf_20 : decode cX5_discardLeaf 20 = .ok (.aload_n 1, 1) := by decide +kernel
theorem dX5_discardLeaf_21 : decode cX5_discardLeaf 21 = .ok (.getfield 109, 3) := by decide +kernel
theorem dX5_discardLeaf_24 : decode cX5_discardLeaf 24 = .ok (.iadd, 1) := by decide +kernel
theorem dX5_discardLeaf_25 : decode cX5_discardLeaf 25 = .ok (.putfield 62, 3) := by decide +kernel
theorem dX5_discardLeaf_28 : decode cX5_discardLeaf 28 = .ok (.aload_n 1, 1) := by decide +kernel
theorem dX5_discardLeaf_29 : decode cX5_discardLeaf 29 = .ok (.invokevirtual 112, 3) := by decide +kernel
theorem dX5_discardLeaf_32 : decode cX5_discardLeaf 32 = .ok (.iload_n 2, 1) := by decide +kernel
theorem dX5_discardLeaf_33 : decode cX5_discardLeaf 33 = .ok (.ireturn, 1) := by decide +kernel
theorem dX5_letHoursPass_0 : decode cX5_letHoursPass 0 = .ok (.iconst 0, 1) := by decide +kernel
theorem dX5_letHoursPass_1 : decode cX5_letHoursPass 1 = .ok (.istore_n 2, 1) := by decide +kernel
theorem dX5_letHoursPass_2 : decode cX5_letHoursPass 2 = .ok (.iload_n 2, 1) := by decide +kernel
theorem dX5_letHoursPass_3 : decode cX5_letHoursPass 3 = .ok (.iload_n 1, 1) := by decide +kernel
theorem dX5_letHoursPass_4 : decode cX5_letHoursPass 4 = .ok (.if_icmp .ge 99, 3) := by decide +kernel
theorem dX5_letHoursPass_7 : decode cX5_letHoursPass 7 = .ok (.aload_n 0, 1) := by decide +kernel
theorem dX5_letHoursPass_8 : decode cX5_letHoursPass 8 = .ok (.getfield 12, 3) := by decide +kernel
theorem dX5_letHoursPass_11 : decode cX5_letHoursPass 11 = .ok (.aload_n 0, 1) := by decide +kernel
theorem dX5_letHoursPass_12 : decode cX5_letHoursPass 12 = .ok (.getfield 12, 3) := by decide +kernel
theorem dX5_letHoursPass_15 : decode cX5_letHoursPass 15 = .ok (.getfield 115, 3) := by decide +kernel
theorem dX5_letHoursPass_18 : decode cX5_letHoursPass 18 = .ok (.invokevirtual 118, 3) := by decide +kernel
theorem dX5_letHoursPass_21 : decode cX5_letHoursPass 21 = .ok (.istore_n 3, 1) := by decide +kernel
theorem dX5_letHoursPass_22 : decode cX5_letHoursPass 22 = .ok (.iconst 0, 1) := by decide +kernel
theorem dX5_letHoursPass_23 : decode cX5_letHoursPass 23 = .ok (.istore 4, 2) := by decide +kernel
theorem dX5_letHoursPass_25 : decode cX5_letHoursPass 25 = .ok (.iload 4, 2) := by decide +kernel
theorem dX5_letHoursPass_27 : decode cX5_letHoursPass 27 = .ok (.aload_n 0, 1) := by decide +kernel
theorem dX5_letHoursPass_28 : decode cX5_letHoursPass 28 = .ok (.getfield 40, 3) := by decide +kernel
theorem dX5_letHoursPass_31 : decode cX5_letHoursPass 31 = .ok (.if_icmp .ge 36, 3) := by decide +kernel
theorem dX5_letHoursPass_34 : decode cX5_letHoursPass 34 = .ok (.iload 4, 2) := by decide +kernel
theorem dX5_letHoursPass_36 : decode cX5_letHoursPass 36 = .ok (.bipush 8, 2) := by decide +kernel
theorem dX5_letHoursPass_38 : decode cX5_letHoursPass 38 = .ok (.if_icmp .ge 29, 3) := by decide +kernel
theorem dX5_letHoursPass_41 : decode cX5_letHoursPass 41 = .ok (.aload_n 0, 1) := by decide +kernel
theorem dX5_letHoursPass_42 : decode cX5_letHoursPass 42 = .ok (.dup, 1) := by decide +kernel
theorem dX5_letHoursPass_43 : decode cX5_letHoursPass 43 = .ok (.getfield 68, 3) := by decide +kernel
theorem dX5_letHoursPass_46 : decode cX5_letHoursPass 46 = .ok (.aload_n 0, 1) := by decide +kernel
theorem dX5_letHoursPass_47 : decode cX5_letHoursPass 47 = .ok (.getfield 20, 3) := by decide +kernel
theorem dX5_letHoursPass_50 : decode cX5_letHoursPass 50 = .ok (.iload 4, 2) := by decide +kernel
theorem dX5_letHoursPass_52 : decode cX5_letHoursPass 52 = .ok (.aaload, 1) := by decide +kernel
theorem dX5_letHoursPass_53 : decode cX5_letHoursPass 53 = .ok (.iload_n 3, 1) := by decide +kernel
theorem dX5_letHoursPass_54 : decode cX5_letHoursPass 54 = .ok (.invokevirtual 122, 3) := by decide +kernel
theorem dX5_letHoursPass_57 : decode cX5_letHoursPass 57 = .ok (.iadd, 1) := by decide +kernel
theorem dX5_letHoursPass_58 : decode cX5_letHoursPass 58 = .ok (.putfield 68, 3) := by decide +kernel
theorem dX5_letHoursPass_61 : decode cX5_letHoursPass 61 = .ok (.iinc 4 1, 3) := by decide +kernel
theorem dX5_letHoursPass_64 : decode cX5_letHoursPass 64 = .ok (.goto (-39), 3) := by decide +kernel
theorem dX5_letHoursPass_67 : decode cX5_letHoursPass 67 = .ok (.aload_n 0, 1) := by decide +kernel
theorem dX5_letHoursPass_68 : decode cX5_letHoursPass 68 = .ok (.getfield 12, 3) := by decide +kernel
theorem dX5_letHoursPass_71 : decode cX5_letHoursPass 71 = .ok (.dup, 1) := by decide +kernel
theorem dX5_letHoursPass_72 : decode cX5_letHoursPass 72 = .ok (.getfield 115, 3) := by decide +kernel
theorem dX5_letHoursPass_75 : decode cX5_letHoursPass 75 = .ok (.iconst 1, 1) := by decide +kernel
theorem dX5_letHoursPass_76 : decode cX5_letHoursPass 76 = .ok (.iadd, 1) := by decide +kernel
theorem dX5_letHoursPass_77 : decode cX5_letHoursPass 77 = .ok (.putfield 115, 3) := by decide +kernel
theorem dX5_letHoursPass_80 : decode cX5_letHoursPass 80 = .ok (.aload_n 0, 1) := by decide +kernel
theorem dX5_letHoursPass_81 : decode cX5_letHoursPass 81 = .ok (.getfield 12, 3) := by decide +kernel
theorem dX5_letHoursPass_84 : decode cX5_letHoursPass 84 = .ok (.getfield 115, 3) := by decide +kernel
theorem dX5_letHoursPass_87 : decode cX5_letHoursPass 87 = .ok (.bipush 24, 2) := by decide +kernel
theorem dX5_letHoursPass_89 : decode cX5_letHoursPass 89 = .ok (.irem, 1) := by decide +kernel
theorem dX5_letHoursPass_90 : decode cX5_letHoursPass 90 = .ok (.ifCond .ne 7, 3) := by decide +kernel
theorem dX5_letHoursPass_93 : decode cX5_letHoursPass 93 = .ok (.aload_n 0, 1) := by decide +kernel
theorem dX5_letHoursPass_94 : decode cX5_letHoursPass 94 = .ok (.invokevirtual 125, 3) := by decide +kernel
theorem dX5_letHoursPass_97 : decode cX5_letHoursPass 97 = .ok (.iinc 2 1, 3) := by decide +kernel
theorem dX5_letHoursPass_100 : decode cX5_letHoursPass 100 = .ok (.goto (-98), 3) := by decide +kernel
theorem dX5_letHoursPass_103 : decode cX5_letHoursPass 103 = .ok (.return_, 1) := by decide +kernel
theorem dX5_ageProbes_0 : decode cX5_ageProbes 0 = .ok (.iconst 0, 1) := by decide +kernel
theorem dX5_ageProbes_1 : decode cX5_ageProbes 1 = .ok (.istore_n 1, 1) := by decide +kernel
theorem dX5_ageProbes_2 : decode cX5_ageProbes 2 = .ok (.iload_n 1, 1) := by decide +kernel
theorem dX5_ageProbes_3 : decode cX5_ageProbes 3 = .ok (.aload_n 0, 1) := by decide +kernel
theorem dX5_ageProbes_4 : decode cX5_ageProbes 4 = .ok (.getfield 44, 3) := by decide +kernel
theorem dX5_ageProbes_7 : decode cX5_ageProbes 7 = .ok (.if_icmp .ge 44, 3) := by decide +kernel
theorem dX5_ageProbes_10 : decode cX5_ageProbes 10 = .ok (.iload_n 1, 1) := by decide +kernel
theorem dX5_ageProbes_11 : decode cX5_ageProbes 11 = .ok (.bipush 6, 2) := by decide +kernel
theorem dX5_ageProbes_13 : decode cX5_ageProbes 13 = .ok (.if_icmp .ge 38, 3) := by decide +kernel
theorem dX5_ageProbes_16 : decode cX5_ageProbes 16 = .ok (.aload_n 0, 1) := by decide +kernel
theorem dX5_ageProbes_17 : decode cX5_ageProbes 17 = .ok (.getfield 26, 3) := by decide +kernel
theorem dX5_ageProbes_20 : decode cX5_ageProbes 20 = .ok (.iload_n 1, 1) := by decide +kernel
theorem dX5_ageProbes_21 : decode cX5_ageProbes 21 = .ok (.aaload, 1) := by decide +kernel
theorem dX5_ageProbes_22 : decode cX5_ageProbes 22 = .ok (.getfield 95, 3) := by decide +kernel
theorem dX5_ageProbes_25 : decode cX5_ageProbes 25 = .ok (.bipush 50, 2) := by decide +kernel
theorem dX5_ageProbes_27 : decode cX5_ageProbes 27 = .ok (.if_icmp .ge 18, 3) := by decide +kernel
theorem dX5_ageProbes_30 : decode cX5_ageProbes 30 = .ok (.aload_n 0, 1) := by decide +kernel
theorem dX5_ageProbes_31 : decode cX5_ageProbes 31 = .ok (.getfield 26, 3) := by decide +kernel
theorem dX5_ageProbes_34 : decode cX5_ageProbes 34 = .ok (.iload_n 1, 1) := by decide +kernel
theorem dX5_ageProbes_35 : decode cX5_ageProbes 35 = .ok (.aaload, 1) := by decide +kernel
theorem dX5_ageProbes_36 : decode cX5_ageProbes 36 = .ok (.dup, 1) := by decide +kernel
theorem dX5_ageProbes_37 : decode cX5_ageProbes 37 = .ok (.getfield 95, 3) := by decide +kernel
theorem dX5_ageProbes_40 : decode cX5_ageProbes 40 = .ok (.iconst 1, 1) := by decide +kernel
theorem dX5_ageProbes_41 : decode cX5_ageProbes 41 = .ok (.iadd, 1) := by decide +kernel
theorem dX5_ageProbes_42 : decode cX5_ageProbes 42 = .ok (.putfield 95, 3) := by decide +kernel
theorem dX5_ageProbes_45 : decode cX5_ageProbes 45 = .ok (.iinc 1 1, 3) := by decide +kernel
theorem dX5_ageProbes_48 : decode cX5_ageProbes 48 = .ok (.goto (-46), 3) := by decide +kernel
theorem dX5_ageProbes_51 : decode cX5_ageProbes 51 = .ok (.return_, 1) := by decide +kernel
theorem dX5_isTooDry_0 : decode cX5_isTooDry 0 = .ok (.aload_n 1, 1) := by decide +kernel
theorem dX5_isTooDry_1 : decode cX5_isTooDry 1 = .ok (.getfield 128, 3) := by decide +kernel
theorem dX5_isTooDry_4 : decode cX5_isTooDry 4 = .ok (.aload_n 0, 1) := by decide +kernel
theorem dX5_isTooDry_5 : decode cX5_isTooDry 5 = .ok (.getfield 47, 3) := by decide +kernel
theorem dX5_isTooDry_8 : decode cX5_isTooDry 8 = .ok (.aload_n 0, 1) := by decide +kernel
theorem dX5_isTooDry_9 : decode cX5_isTooDry 9 = .ok (.getfield 50, 3) := by decide +kernel
theorem dX5_isTooDry_12 : decode cX5_isTooDry 12 = .ok (.isub, 1) := by decide +kernel
theorem dX5_isTooDry_13 : decode cX5_isTooDry 13 = .ok (.if_icmp .lt 19, 3) := by decide +kernel
theorem dX5_isTooDry_16 : decode cX5_isTooDry 16 = .ok (.aload_n 1, 1) := by decide +kernel
theorem dX5_isTooDry_17 : decode cX5_isTooDry 17 = .ok (.getfield 131, 3) := by decide +kernel
theorem dX5_isTooDry_20 : decode cX5_isTooDry 20 = .ok (.aload_n 0, 1) := by decide +kernel
theorem dX5_isTooDry_21 : decode cX5_isTooDry 21 = .ok (.getfield 47, 3) := by decide +kernel
theorem dX5_isTooDry_24 : decode cX5_isTooDry 24 = .ok (.aload_n 0, 1) := by decide +kernel
theorem dX5_isTooDry_25 : decode cX5_isTooDry 25 = .ok (.getfield 50, 3) := by decide +kernel
theorem dX5_isTooDry_28 : decode cX5_isTooDry 28 = .ok (.isub, 1) := by decide +kernel
theorem dX5_isTooDry_29 : decode cX5_isTooDry 29 = .ok (.if_icmp .ge 7, 3) := by decide +kernel
theorem dX5_isTooDry_32 : decode cX5_isTooDry 32 = .ok (.iconst 1, 1) := by decide +kernel
theorem dX5_isTooDry_33 : decode cX5_isTooDry 33 = .ok (.goto 4, 3) := by decide +kernel
theorem dX5_isTooDry_36 : decode cX5_isTooDry 36 = .ok (.iconst 0, 1) := by decide +kernel
theorem dX5_isTooDry_37 : decode cX5_isTooDry 37 = .ok (.ireturn, 1) := by decide +kernel
theorem dX5_isReady_0 : decode cX5_isReady 0 = .ok (.aload_n 1, 1) := by decide +kernel
theorem dX5_isReady_1 : decode cX5_isReady 1 = .ok (.invokevirtual 134, 3) := by decide +kernel
theorem dX5_isReady_4 : decode cX5_isReady 4 = .ok (.ifCond .eq 47, 3) := by decide +kernel
theorem dX5_isReady_7 : decode cX5_isReady 7 = .ok (.aload_n 0, 1) := by decide +kernel
theorem dX5_isReady_8 : decode cX5_isReady 8 = .ok (.aload_n 1, 1) := by decide +kernel
theorem dX5_isReady_9 : decode cX5_isReady 9 = .ok (.invokevirtual 138, 3) := by decide +kernel
theorem dX5_isReady_12 : decode cX5_isReady 12 = .ok (.ifCond .ne 39, 3) := by decide +kernel
theorem dX5_isReady_15 : decode cX5_isReady 15 = .ok (.aload_n 1, 1) := by decide +kernel
theorem dX5_isReady_16 : decode cX5_isReady 16 = .ok (.getfield 128, 3) := by decide +kernel
theorem dX5_isReady_19 : decode cX5_isReady 19 = .ok (.aload_n 0, 1) := by decide +kernel
theorem dX5_isReady_20 : decode cX5_isReady 20 = .ok (.getfield 47, 3) := by decide +kernel
theorem dX5_isReady_23 : decode cX5_isReady 23 = .ok (.aload_n 0, 1) := by decide +kernel
theorem dX5_isReady_24 : decode cX5_isReady 24 = .ok (.getfield 50, 3) := by decide +kernel
theorem dX5_isReady_27 : decode cX5_isReady 27 = .ok (.iadd, 1) := by decide +kernel
theorem dX5_isReady_28 : decode cX5_isReady 28 = .ok (.if_icmp .gt 23, 3) := by decide +kernel
theorem dX5_isReady_31 : decode cX5_isReady 31 = .ok (.aload_n 1, 1) := by decide +kernel
theorem dX5_isReady_32 : decode cX5_isReady 32 = .ok (.getfield 131, 3) := by decide +kernel
theorem dX5_isReady_35 : decode cX5_isReady 35 = .ok (.aload_n 0, 1) := by decide +kernel
theorem dX5_isReady_36 : decode cX5_isReady 36 = .ok (.getfield 47, 3) := by decide +kernel
theorem dX5_isReady_39 : decode cX5_isReady 39 = .ok (.aload_n 0, 1) := by decide +kernel
theorem dX5_isReady_40 : decode cX5_isReady 40 = .ok (.getfield 50, 3) := by decide +kernel
theorem dX5_isReady_43 : decode cX5_isReady 43 = .ok (.iadd, 1) := by decide +kernel
theorem dX5_isReady_44 : decode cX5_isReady 44 = .ok (.if_icmp .gt 7, 3) := by decide +kernel
theorem dX5_isReady_47 : decode cX5_isReady 47 = .ok (.iconst 1, 1) := by decide +kernel
theorem dX5_isReady_48 : decode cX5_isReady 48 = .ok (.goto 4, 3) := by decide +kernel
theorem dX5_isReady_51 : decode cX5_isReady 51 = .ok (.iconst 0, 1) := by decide +kernel
theorem dX5_isReady_52 : decode cX5_isReady 52 = .ok (.ireturn, 1) := by decide +kernel
theorem dX5_refusalOf_0 : decode cX5_refusalOf 0 = .ok (.aload_n 1, 1) := by decide +kernel
theorem dX5_refusalOf_1 : decode cX5_refusalOf 1 = .ok (.invokevirtual 134, 3) := by decide +kernel
theorem dX5_refusalOf_4 : decode cX5_refusalOf 4 = .ok (.ifCond .ne 5, 3) := by decide +kernel
theorem dX5_refusalOf_7 : decode cX5_refusalOf 7 = .ok (.iconst 1, 1) := by decide +kernel
theorem dX5_refusalOf_8 : decode cX5_refusalOf 8 = .ok (.ireturn, 1) := by decide +kernel
theorem dX5_refusalOf_9 : decode cX5_refusalOf 9 = .ok (.aload_n 0, 1) := by decide +kernel
theorem dX5_refusalOf_10 : decode cX5_refusalOf 10 = .ok (.aload_n 1, 1) := by decide +kernel
theorem dX5_refusalOf_11 : decode cX5_refusalOf 11 = .ok (.invokevirtual 138, 3) := by decide +kernel
theorem dX5_refusalOf_14 : decode cX5_refusalOf 14 = .ok (.ifCond .eq 5, 3) := by decide +kernel
theorem dX5_refusalOf_17 : decode cX5_refusalOf 17 = .ok (.iconst 2, 1) := by decide +kernel
theorem dX5_refusalOf_18 : decode cX5_refusalOf 18 = .ok (.ireturn, 1) := by decide +kernel
theorem dX5_refusalOf_19 : decode cX5_refusalOf 19 = .ok (.aload_n 0, 1) := by decide +kernel
theorem dX5_refusalOf_20 : decode cX5_refusalOf 20 = .ok (.aload_n 1, 1) := by decide +kernel
theorem dX5_refusalOf_21 : decode cX5_refusalOf 21 = .ok (.invokevirtual 142, 3) := by decide +kernel
theorem dX5_refusalOf_24 : decode cX5_refusalOf 24 = .ok (.ifCond .eq 7, 3) := by decide +kernel
theorem dX5_refusalOf_27 : decode cX5_refusalOf 27 = .ok (.iconst 0, 1) := by decide +kernel
theorem dX5_refusalOf_28 : decode cX5_refusalOf 28 = .ok (.goto 4, 3) := by decide +kernel
theorem dX5_refusalOf_31 : decode cX5_refusalOf 31 = .ok (.iconst 3, 1) := by decide +kernel
theorem dX5_refusalOf_32 : decode cX5_refusalOf 32 = .ok (.ireturn, 1) := by decide +kernel
theorem dX5_setOfReady_0 : decode cX5_setOfReady 0 = .ok (.iconst 0, 1) := by decide +kernel
theorem dX5_setOfReady_1 : decode cX5_setOfReady 1 = .ok (.istore_n 1, 1) := by decide +kernel
theorem dX5_setOfReady_2 : decode cX5_setOfReady 2 = .ok (.iconst 0, 1) := by decide +kernel
theorem dX5_setOfReady_3 : decode cX5_setOfReady 3 = .ok (.istore_n 2, 1) := by decide +kernel
theorem dX5_setOfReady_4 : decode cX5_setOfReady 4 = .ok (.iload_n 2, 1) := by decide +kernel
theorem dX5_setOfReady_5 : decode cX5_setOfReady 5 = .ok (.bipush 8, 2) := by decide +kernel
theorem dX5_setOfReady_7 : decode cX5_setOfReady 7 = .ok (.if_icmp .ge 28, 3) := by decide +kernel
theorem dX5_setOfReady_10 : decode cX5_setOfReady 10 = .ok (.aload_n 0, 1) := by decide +kernel
theorem dX5_setOfReady_11 : decode cX5_setOfReady 11 = .ok (.aload_n 0, 1) := by decide +kernel
theorem dX5_setOfReady_12 : decode cX5_setOfReady 12 = .ok (.getfield 20, 3) := by decide +kernel
theorem dX5_setOfReady_15 : decode cX5_setOfReady 15 = .ok (.iload_n 2, 1) := by decide +kernel
theorem dX5_setOfReady_16 : decode cX5_setOfReady 16 = .ok (.aaload, 1) := by decide +kernel
theorem dX5_setOfReady_17 : decode cX5_setOfReady 17 = .ok (.invokevirtual 142, 3) := by decide +kernel
theorem dX5_setOfReady_20 : decode cX5_setOfReady 20 = .ok (.ifCond .eq 9, 3) := by decide +kernel
theorem dX5_setOfReady_23 : decode cX5_setOfReady 23 = .ok (.iload_n 1, 1) := by decide +kernel
theorem dX5_setOfReady_24 : decode cX5_setOfReady 24 = .ok (.iconst 1, 1) := by decide +kernel
theorem dX5_setOfReady_25 : decode cX5_setOfReady 25 = .ok (.iload_n 2, 1) := by decide +kernel
theorem dX5_setOfReady_26 : decode cX5_setOfReady 26 = .ok (.ishl, 1) := by decide +kernel
theorem dX5_setOfReady_27 : decode cX5_setOfReady 27 = .ok (.ior, 1) := by decide +kernel
theorem dX5_setOfReady_28 : decode cX5_setOfReady 28 = .ok (.istore_n 1, 1) := by decide +kernel
theorem dX5_setOfReady_29 : decode cX5_setOfReady 29 = .ok (.iinc 2 1, 3) := by decide +kernel
theorem dX5_setOfReady_32 : decode cX5_setOfReady 32 = .ok (.goto (-28), 3) := by decide +kernel
theorem dX5_setOfReady_35 : decode cX5_setOfReady 35 = .ok (.iload_n 1, 1) := by decide +kernel
theorem dX5_setOfReady_36 : decode cX5_setOfReady 36 = .ok (.ireturn, 1) := by decide +kernel
theorem dX5_readingOf_0 : decode cX5_readingOf 0 = .ok (.aload_n 0, 1) := by decide +kernel
theorem dX5_readingOf_1 : decode cX5_readingOf 1 = .ok (.aload_n 1, 1) := by decide +kernel
theorem dX5_readingOf_2 : decode cX5_readingOf 2 = .ok (.getfield 89, 3) := by decide +kernel
theorem dX5_readingOf_5 : decode cX5_readingOf 5 = .ok (.invokevirtual 81, 3) := by decide +kernel
theorem dX5_readingOf_8 : decode cX5_readingOf 8 = .ok (.astore_n 2, 1) := by decide +kernel
theorem dX5_readingOf_9 : decode cX5_readingOf 9 = .ok (.aload_n 2, 1) := by decide +kernel
theorem dX5_readingOf_10 : decode cX5_readingOf 10 = .ok (.invokevirtual 134, 3) := by decide +kernel
theorem dX5_readingOf_13 : decode cX5_readingOf 13 = .ok (.ifCond .eq 19, 3) := by decide +kernel
theorem dX5_readingOf_16 : decode cX5_readingOf 16 = .ok (.aload_n 2, 1) := by decide +kernel
theorem dX5_readingOf_17 : decode cX5_readingOf 17 = .ok (.aload_n 1, 1) := by decide +kernel
theorem dX5_readingOf_18 : decode cX5_readingOf 18 = .ok (.getfield 92, 3) := by decide +kernel
theorem dX5_readingOf_21 : decode cX5_readingOf 21 = .ok (.invokevirtual 145, 3) := by decide +kernel
theorem dX5_readingOf_24 : decode cX5_readingOf 24 = .ok (.aload_n 1, 1) := by decide +kernel
theorem dX5_readingOf_25 : decode cX5_readingOf 25 = .ok (.getfield 95, 3) := by decide +kernel
theorem dX5_readingOf_28 : decode cX5_readingOf 28 = .ok (.iadd, 1) := by decide +kernel
theorem dX5_readingOf_29 : decode cX5_readingOf 29 = .ok (.goto 4, 3) := by decide +kernel
theorem dX5_readingOf_32 : decode cX5_readingOf 32 = .ok (.iconst (-1), 1) := by decide +kernel
theorem dX5_readingOf_33 : decode cX5_readingOf 33 = .ok (.ireturn, 1) := by decide +kernel
theorem dX5_countViolations_0 : decode cX5_countViolations 0 = .ok (.aload_n 0, 1) := by decide +kernel
theorem dX5_countViolations_1 : decode cX5_countViolations 1 = .ok (.getfield 56, 3) := by decide +kernel
theorem dX5_countViolations_4 : decode cX5_countViolations 4 = .ok (.aload_n 0, 1) := by decide +kernel
theorem dX5_countViolations_5 : decode cX5_countViolations 5 = .ok (.getfield 59, 3) := by decide +kernel
theorem dX5_countViolations_8 : decode cX5_countViolations 8 = .ok (.iadd, 1) := by decide +kernel
theorem dX5_countViolations_9 : decode cX5_countViolations 9 = .ok (.istore_n 1, 1) := by decide +kernel
theorem dX5_countViolations_10 : decode cX5_countViolations 10 = .ok (.aload_n 0, 1) := by decide +kernel
theorem dX5_countViolations_11 : decode cX5_countViolations 11 = .ok (.getfield 62, 3) := by decide +kernel
theorem dX5_countViolations_14 : decode cX5_countViolations 14 = .ok (.aload_n 0, 1) := by decide +kernel
theorem dX5_countViolations_15 : decode cX5_countViolations 15 = .ok (.getfield 68, 3) := by decide +kernel
theorem dX5_countViolations_18 : decode cX5_countViolations 18 = .ok (.iadd, 1) := by decide +kernel
theorem dX5_countViolations_19 : decode cX5_countViolations 19 = .ok (.istore_n 2, 1) := by decide +kernel
theorem dX5_countViolations_20 : decode cX5_countViolations 20 = .ok (.iconst 0, 1) := by decide +kernel
theorem dX5_countViolations_21 : decode cX5_countViolations 21 = .ok (.istore_n 3, 1) := by decide +kernel
theorem dX5_countViolations_22 : decode cX5_countViolations 22 = .ok (.iconst 0, 1) := by decide +kernel
theorem dX5_countViolations_23 : decode cX5_countViolations 23 = .ok (.istore 4, 2) := by decide +kernel
theorem dX5_countViolations_25 : decode cX5_countViolations 25 = .ok (.iload 4, 2) := by decide +kernel
theorem dX5_countViolations_27 : decode cX5_countViolations 27 = .ok (.bipush 8, 2) := by decide +kernel
theorem dX5_countViolations_29 : decode cX5_countViolations 29 = .ok (.if_icmp .ge 48, 3) := by decide +kernel
theorem dX5_countViolations_32 : decode cX5_countViolations 32 = .ok (.iload_n 1, 1) := by decide +kernel
theorem dX5_countViolations_33 : decode cX5_countViolations 33 = .ok (.aload_n 0, 1) := by decide +kernel
theorem dX5_countViolations_34 : decode cX5_countViolations 34 = .ok (.getfield 20, 3) := by decide +kernel
theorem dX5_countViolations_37 : decode cX5_countViolations 37 = .ok (.iload 4, 2) := by decide +kernel
theorem dX5_countViolations_39 : decode cX5_countViolations 39 = .ok (.aaload, 1) := by decide +kernel
theorem dX5_countViolations_40 : decode cX5_countViolations 40 = .ok (.getfield 102, 3) := by decide +kernel
theorem dX5_countViolations_43 : decode cX5_countViolations 43 = .ok (.iadd, 1) := by decide +kernel
theorem dX5_countViolations_44 : decode cX5_countViolations 44 = .ok (.istore_n 1, 1) := by decide +kernel
theorem dX5_countViolations_45 : decode cX5_countViolations 45 = .ok (.iload_n 2, 1) := by decide +kernel
theorem dX5_countViolations_46 : decode cX5_countViolations 46 = .ok (.aload_n 0, 1) := by decide +kernel
theorem dX5_countViolations_47 : decode cX5_countViolations 47 = .ok (.getfield 20, 3) := by decide +kernel
theorem dX5_countViolations_50 : decode cX5_countViolations 50 = .ok (.iload 4, 2) := by decide +kernel
theorem dX5_countViolations_52 : decode cX5_countViolations 52 = .ok (.aaload, 1) := by decide +kernel
theorem dX5_countViolations_53 : decode cX5_countViolations 53 = .ok (.getfield 109, 3) := by decide +kernel
theorem dX5_countViolations_56 : decode cX5_countViolations 56 = .ok (.iadd, 1) := by decide +kernel
theorem dX5_countViolations_57 : decode cX5_countViolations 57 = .ok (.istore_n 2, 1) := by decide +kernel
theorem dX5_countViolations_58 : decode cX5_countViolations 58 = .ok (.iload_n 3, 1) := by decide +kernel
theorem dX5_countViolations_59 : decode cX5_countViolations 59 = .ok (.aload_n 0, 1) := by decide +kernel
theorem dX5_countViolations_60 : decode cX5_countViolations 60 = .ok (.getfield 20, 3) := by decide +kernel
theorem dX5_countViolations_63 : decode cX5_countViolations 63 = .ok (.iload 4, 2) := by decide +kernel
theorem dX5_countViolations_65 : decode cX5_countViolations 65 = .ok (.aaload, 1) := by decide +kernel
theorem dX5_countViolations_66 : decode cX5_countViolations 66 = .ok (.invokevirtual 158, 3) := by decide +kernel
theorem dX5_countViolations_69 : decode cX5_countViolations 69 = .ok (.iadd, 1) := by decide +kernel
theorem dX5_countViolations_70 : decode cX5_countViolations 70 = .ok (.istore_n 3, 1) := by decide +kernel
theorem dX5_countViolations_71 : decode cX5_countViolations 71 = .ok (.iinc 4 1, 3) := by decide +kernel
theorem dX5_countViolations_74 : decode cX5_countViolations 74 = .ok (.goto (-49), 3) := by decide +kernel
theorem dX5_countViolations_77 : decode cX5_countViolations 77 = .ok (.iload_n 3, 1) := by decide +kernel
theorem dX5_countViolations_78 : decode cX5_countViolations 78 = .ok (.aload_n 0, 1) := by decide +kernel
theorem dX5_countViolations_79 : decode cX5_countViolations 79 = .ok (.getfield 53, 3) := by decide +kernel
theorem dX5_countViolations_82 : decode cX5_countViolations 82 = .ok (.iload_n 1, 1) := by decide +kernel
theorem dX5_countViolations_83 : decode cX5_countViolations 83 = .ok (.isub, 1) := by decide +kernel
theorem dX5_countViolations_84 : decode cX5_countViolations 84 = .ok (.invokestatic 161, 3) := by decide +kernel
theorem dX5_countViolations_87 : decode cX5_countViolations 87 = .ok (.iadd, 1) := by decide +kernel
theorem dX5_countViolations_88 : decode cX5_countViolations 88 = .ok (.istore_n 3, 1) := by decide +kernel
theorem dX5_countViolations_89 : decode cX5_countViolations 89 = .ok (.iload_n 3, 1) := by decide +kernel
theorem dX5_countViolations_90 : decode cX5_countViolations 90 = .ok (.aload_n 0, 1) := by decide +kernel
theorem dX5_countViolations_91 : decode cX5_countViolations 91 = .ok (.getfield 53, 3) := by decide +kernel
theorem dX5_countViolations_94 : decode cX5_countViolations 94 = .ok (.sipush 2000, 3) := by decide +kernel
theorem dX5_countViolations_97 : decode cX5_countViolations 97 = .ok (.imul, 1) := by decide +kernel
theorem dX5_countViolations_98 : decode cX5_countViolations 98 = .ok (.iload_n 2, 1) := by decide +kernel
theorem dX5_countViolations_99 : decode cX5_countViolations 99 = .ok (.isub, 1) := by decide +kernel
theorem dX5_countViolations_100 : decode cX5_countViolations 100 = .ok (.invokestatic 161, 3) := by decide +kernel
theorem dX5_countViolations_103 : decode cX5_countViolations 103 = .ok (.iadd, 1) := by decide +kernel
theorem dX5_countViolations_104 : decode cX5_countViolations 104 = .ok (.istore_n 3, 1) := by decide +kernel
theorem dX5_countViolations_105 : decode cX5_countViolations 105 = .ok (.iload_n 3, 1) := by decide +kernel
theorem dX5_countViolations_106 : decode cX5_countViolations 106 = .ok (.ireturn, 1) := by decide +kernel
theorem dX6_init_0 : decode cX6_init 0 = .ok (.aload_n 0, 1) := by decide +kernel
theorem dX6_init_1 : decode cX6_init 1 = .ok (.invokespecial 1, 3) := by decide +kernel
theorem dX6_init_4 : decode cX6_init 4 = .ok (.return_, 1) := by decide +kernel
theorem dX6_become_0 : decode cX6_become 0 = .ok (.aload_n 0, 1) := by decide +kernel
theorem dX6_become_1 : decode cX6_become 1 = .ok (.aload_n 1, 1) := by decide +kernel
theorem dX6_become_2 : decode cX6_become 2 = .ok (.getfield 7, 3) := by decide +kernel
theorem dX6_become_5 : decode cX6_become 5 = .ok (.putfield 7, 3) := by decide +kernel
theorem dX6_become_8 : decode cX6_become 8 = .ok (.aload_n 0, 1) := by decide +kernel
theorem dX6_become_9 : decode cX6_become 9 = .ok (.aload_n 1, 1) := by decide +kernel
theorem dX6_become_10 : decode cX6_become 10 = .ok (.getfield 13, 3) := by decide +kernel
theorem dX6_become_13 : decode cX6_become 13 = .ok (.putfield 13, 3) := by decide +kernel
theorem dX6_become_16 : decode cX6_become 16 = .ok (.aload_n 0, 1) := by decide +kernel
theorem dX6_become_17 : decode cX6_become 17 = .ok (.aload_n 1, 1) := by decide +kernel
theorem dX6_become_18 : decode cX6_become 18 = .ok (.getfield 16, 3) := by decide +kernel
theorem dX6_become_21 : decode cX6_become 21 = .ok (.putfield 16, 3) := by decide +kernel
theorem dX6_become_24 : decode cX6_become 24 = .ok (.return_, 1) := by decide +kernel
theorem dX7_init_0 : decode cX7_init 0 = .ok (.aload_n 0, 1) := by decide +kernel
theorem dX7_init_1 : decode cX7_init 1 = .ok (.invokespecial 3, 3) := by decide +kernel
theorem dX7_init_4 : decode cX7_init 4 = .ok (.aload_n 0, 1) := by decide +kernel
theorem dX7_init_5 : decode cX7_init 5 = .ok (.bipush 88, 2) := by decide +kernel
theorem dX7_init_7 : decode cX7_init 7 = .ok (.newarray .byte, 2) := by decide +kernel
theorem dX7_init_9 : decode cX7_init 9 = .ok (.putfield 11, 3) := by decide +kernel
theorem dX7_init_12 : decode cX7_init 12 = .ok (.return_, 1) := by decide +kernel
theorem dX8_init_0 : decode cX8_init 0 = .ok (.aload_n 0, 1) := by decide +kernel
theorem dX8_init_1 : decode cX8_init 1 = .ok (.invokespecial 3, 3) := by decide +kernel
theorem dX8_init_4 : decode cX8_init 4 = .ok (.aload_n 0, 1) := by decide +kernel
theorem dX8_init_5 : decode cX8_init 5 = .ok (.new 9, 3) := by decide +kernel
theorem dX8_init_8 : decode cX8_init 8 = .ok (.dup, 1) := by decide +kernel
theorem dX8_init_9 : decode cX8_init 9 = .ok (.invokespecial 11, 3) := by decide +kernel
theorem dX8_init_12 : decode cX8_init 12 = .ok (.putfield 12, 3) := by decide +kernel
theorem dX8_init_15 : decode cX8_init 15 = .ok (.aload_n 0, 1) := by decide +kernel
theorem dX8_init_16 : decode cX8_init 16 = .ok (.new 18, 3) := by decide +kernel
theorem dX8_init_19 : decode cX8_init 19 = .ok (.dup, 1) := by decide +kernel
theorem dX8_init_20 : decode cX8_init 20 = .ok (.invokespecial 20, 3) := by decide +kernel
theorem dX8_init_23 : decode cX8_init 23 = .ok (.putfield 21, 3) := by decide +kernel
theorem dX8_init_26 : decode cX8_init 26 = .ok (.aload_n 0, 1) := by decide +kernel
theorem dX8_init_27 : decode cX8_init 27 = .ok (.getstatic 25, 3) := by decide +kernel
theorem dX8_init_30 : decode cX8_init 30 = .ok (.putfield 31, 3) := by decide +kernel
theorem dX8_init_33 : decode cX8_init 33 = .ok (.aload_n 0, 1) := by decide +kernel
theorem dX8_init_34 : decode cX8_init 34 = .ok (.iconst 4, 1) := by decide +kernel
theorem dX8_init_35 : decode cX8_init 35 = .ok (.newarray .int, 2) := by decide +kernel
theorem dX8_init_37 : decode cX8_init 37 = .ok (.putfield 34, 3) := by decide +kernel
theorem dX8_init_40 : decode cX8_init 40 = .ok (.aload_n 0, 1) := by decide +kernel
theorem dX8_init_41 : decode cX8_init 41 = .ok (.iconst 2, 1) := by decide +kernel
theorem dX8_init_42 : decode cX8_init 42 = .ok (.newarray .int, 2) := by decide +kernel
theorem dX8_init_44 : decode cX8_init 44 = .ok (.putfield 38, 3) := by decide +kernel
theorem dX8_init_47 : decode cX8_init 47 = .ok (.aload_n 0, 1) := by decide +kernel
theorem dX8_init_48 : decode cX8_init 48 = .ok (.iconst 2, 1) := by decide +kernel
theorem dX8_init_49 : decode cX8_init 49 = .ok (.newarray .int, 2) := by decide +kernel
theorem dX8_init_51 : decode cX8_init 51 = .ok (.putfield 41, 3) := by decide +kernel
theorem dX8_init_54 : decode cX8_init 54 = .ok (.return_, 1) := by decide +kernel
theorem dX10_init_0 : decode cX10_init 0 = .ok (.aload_n 0, 1) := by decide +kernel
theorem dX10_init_1 : decode cX10_init 1 = .ok (.invokespecial 3, 3) := by decide +kernel
theorem dX10_init_4 : decode cX10_init 4 = .ok (.return_, 1) := by decide +kernel
theorem dX10_build_0 : decode cX10_build 0 = .ok (.aload_n 0, 1) := by decide +kernel
theorem dX10_build_1 : decode cX10_build 1 = .ok (.iload_n 1, 1) := by decide +kernel
theorem dX10_build_2 : decode cX10_build 2 = .ok (.putfield 9, 3) := by decide +kernel
theorem dX10_build_5 : decode cX10_build 5 = .ok (.aload_n 0, 1) := by decide +kernel
theorem dX10_build_6 : decode cX10_build 6 = .ok (.iconst 0, 1) := by decide +kernel
theorem dX10_build_7 : decode cX10_build 7 = .ok (.putfield 15, 3) := by decide +kernel
theorem dX10_build_10 : decode cX10_build 10 = .ok (.aload_n 0, 1) := by decide +kernel
theorem dX10_build_11 : decode cX10_build 11 = .ok (.iconst 1, 1) := by decide +kernel
theorem dX10_build_12 : decode cX10_build 12 = .ok (.putfield 18, 3) := by decide +kernel
theorem dX10_build_15 : decode cX10_build 15 = .ok (.aload_n 0, 1) := by decide +kernel
theorem dX10_build_16 : decode cX10_build 16 = .ok (.invokevirtual 22, 3) := by decide +kernel
theorem dX10_build_19 : decode cX10_build 19 = .ok (.return_, 1) := by decide +kernel
theorem dX10_become_0 : decode cX10_become 0 = .ok (.aload_n 0, 1) := by decide +kernel
theorem dX10_become_1 : decode cX10_become 1 = .ok (.aload_n 1, 1) := by decide +kernel
theorem dX10_become_2 : decode cX10_become 2 = .ok (.getfield 9, 3) := by decide +kernel
theorem dX10_become_5 : decode cX10_become 5 = .ok (.putfield 9, 3) := by decide +kernel
theorem dX10_become_8 : decode cX10_become 8 = .ok (.aload_n 0, 1) := by decide +kernel
theorem dX10_become_9 : decode cX10_become 9 = .ok (.aload_n 1, 1) := by decide +kernel
theorem dX10_become_10 : decode cX10_become 10 = .ok (.getfield 15, 3) := by decide +kernel
theorem dX10_become_13 : decode cX10_become 13 = .ok (.putfield 15, 3) := by decide +kernel
theorem dX10_become_16 : decode cX10_become 16 = .ok (.aload_n 0, 1) := by decide +kernel
theorem dX10_become_17 : decode cX10_become 17 = .ok (.aload_n 1, 1) := by decide +kernel
theorem dX10_become_18 : decode cX10_become 18 = .ok (.getfield 18, 3) := by decide +kernel
theorem dX10_become_21 : decode cX10_become 21 = .ok (.putfield 18, 3) := by decide +kernel
theorem dX10_become_24 : decode cX10_become 24 = .ok (.aload_n 0, 1) := by decide +kernel
theorem dX10_become_25 : decode cX10_become 25 = .ok (.aload_n 1, 1) := by decide +kernel
theorem dX10_become_26 : decode cX10_become 26 = .ok (.getfield 25, 3) := by decide +kernel
theorem dX10_become_29 : decode cX10_become 29 = .ok (.putfield 25, 3) := by decide +kernel
theorem dX10_become_32 : decode cX10_become 32 = .ok (.aload_n 0, 1) := by decide +kernel
theorem dX10_become_33 : decode cX10_become 33 = .ok (.aload_n 1, 1) := by decide +kernel
theorem dX10_become_34 : decode cX10_become 34 = .ok (.getfield 28, 3) := by decide +kernel
theorem dX10_become_37 : decode cX10_become 37 = .ok (.putfield 28, 3) := by decide +kernel
theorem dX10_become_40 : decode cX10_become 40 = .ok (.aload_n 0, 1) := by decide +kernel
theorem dX10_become_41 : decode cX10_become 41 = .ok (.aload_n 1, 1) := by decide +kernel
theorem dX10_become_42 : decode cX10_become 42 = .ok (.getfield 31, 3) := by decide +kernel
theorem dX10_become_45 : decode cX10_become 45 = .ok (.putfield 31, 3) := by decide +kernel
theorem dX10_become_48 : decode cX10_become 48 = .ok (.aload_n 0, 1) := by decide +kernel
theorem dX10_become_49 : decode cX10_become 49 = .ok (.aload_n 1, 1) := by decide +kernel
theorem dX10_become_50 : decode cX10_become 50 = .ok (.getfield 34, 3) := by decide +kernel
theorem dX10_become_53 : decode cX10_become 53 = .ok (.putfield 34, 3) := by decide +kernel
theorem dX10_become_56 : decode cX10_become 56 = .ok (.aload_n 0, 1) := by decide +kernel
theorem dX10_become_57 : decode cX10_become 57 = .ok (.aload_n 1, 1) := by decide +kernel
theorem dX10_become_58 : decode cX10_become 58 = .ok (.getfield 37, 3) := by decide +kernel
theorem dX10_become_61 : decode cX10_become 61 = .ok (.putfield 37, 3) := by decide +kernel
theorem dX10_become_64 : decode cX10_become 64 = .ok (.aload_n 0, 1) := by decide +kernel
theorem dX10_become_65 : decode cX10_become 65 = .ok (.aload_n 1, 1) := by decide +kernel
theorem dX10_become_66 : decode cX10_become 66 = .ok (.getfield 40, 3) := by decide +kernel
theorem dX10_become_69 : decode cX10_become 69 = .ok (.putfield 40, 3) := by decide +kernel
theorem dX10_become_72 : decode cX10_become 72 = .ok (.aload_n 0, 1) := by decide +kernel
theorem dX10_become_73 : decode cX10_become 73 = .ok (.aload_n 1, 1) := by decide +kernel
theorem dX10_become_74 : decode cX10_become 74 = .ok (.getfield 43, 3) := by decide +kernel
theorem dX10_become_77 : decode cX10_become 77 = .ok (.putfield 43, 3) := by decide +kernel
theorem dX10_become_80 : decode cX10_become 80 = .ok (.return_, 1) := by decide +kernel
theorem dX10_hasLeaf_0 : decode cX10_hasLeaf 0 = .ok (.aload_n 0, 1) := by decide +kernel
theorem dX10_hasLeaf_1 : decode cX10_hasLeaf 1 = .ok (.getfield 25, 3) := by decide +kernel
theorem dX10_hasLeaf_4 : decode cX10_hasLeaf 4 = .ok (.ifCond .le 7, 3) := by decide +kernel
theorem dX10_hasLeaf_7 : decode cX10_hasLeaf 7 = .ok (.iconst 1, 1) := by decide +kernel
theorem dX10_hasLeaf_8 : decode cX10_hasLeaf 8 = .ok (.goto 4, 3) := by decide +kernel
theorem dX10_hasLeaf_11 : decode cX10_hasLeaf 11 = .ok (.iconst 0, 1) := by decide +kernel
theorem dX10_hasLeaf_12 : decode cX10_hasLeaf 12 = .ok (.ireturn, 1) := by decide +kernel
theorem dX10_takeLeaf_0 : decode cX10_takeLeaf 0 = .ok (.aload_n 0, 1) := by decide +kernel
theorem dX10_takeLeaf_1 : decode cX10_takeLeaf 1 = .ok (.iload_n 1, 1) := by decide +kernel
theorem dX10_takeLeaf_2 : decode cX10_takeLeaf 2 = .ok (.putfield 25, 3) := by decide +kernel
theorem dX10_takeLeaf_5 : decode cX10_takeLeaf 5 = .ok (.aload_n 0, 1) := by decide +kernel
theorem dX10_takeLeaf_6 : decode cX10_takeLeaf 6 = .ok (.aload_n 0, 1) := by decide +kernel
theorem dX10_takeLeaf_7 : decode cX10_takeLeaf 7 = .ok (.getfield 9, 3) := by decide +kernel
theorem dX10_takeLeaf_10 : decode cX10_takeLeaf 10 = .ok (.ifCond .gt 7, 3) := by decide +kernel
theorem dX10_takeLeaf_13 : decode cX10_takeLeaf 13 = .ok (.iconst 0, 1) := by decide +kernel
theorem dX10_takeLeaf_14 : decode cX10_takeLeaf 14 = .ok (.goto 12, 3) := by decide +kernel
theorem dX10_takeLeaf_17 : decode cX10_takeLeaf 17 = .ok (.iload_n 1, 1) := by decide +kernel
theorem dX10_takeLeaf_18 : decode cX10_takeLeaf 18 = .ok (.bipush 100, 2) := by decide +kernel
theorem dX10_takeLeaf_20 : decode cX10_takeLeaf 20 = .ok (.imul, 1) := by decide +kernel
theorem dX10_takeLeaf_21 : decode cX10_takeLeaf 21 = .ok (.aload_n 0, 1) := by decide +kernel
theorem dX10_takeLeaf_22 : decode cX10_takeLeaf 22 = .ok (.getfield 9, 3) := by decide +kernel
theorem dX10_takeLeaf_25 : decode cX10_takeLeaf 25 = .ok (.idiv, 1) := by decide +kernel
theorem dX10_takeLeaf_26 : decode cX10_takeLeaf 26 = .ok (.putfield 28, 3) := by decide +kernel
theorem dX10_takeLeaf_29 : decode cX10_takeLeaf 29 = .ok (.aload_n 0, 1) := by decide +kernel
theorem dX10_takeLeaf_30 : decode cX10_takeLeaf 30 = .ok (.iload_n 1, 1) := by decide +kernel
theorem dX10_takeLeaf_31 : decode cX10_takeLeaf 31 = .ok (.sipush 2000, 3) := by decide +kernel
theorem dX10_takeLeaf_34 : decode cX10_takeLeaf 34 = .ok (.imul, 1) := by decide +kernel
theorem dX10_takeLeaf_35 : decode cX10_takeLeaf 35 = .ok (.putfield 31, 3) := by decide +kernel
theorem dX10_takeLeaf_38 : decode cX10_takeLeaf 38 = .ok (.aload_n 0, 1) := by decide +kernel
theorem dX10_takeLeaf_39 : decode cX10_takeLeaf 39 = .ok (.iload_n 2, 1) := by decide +kernel
theorem dX10_takeLeaf_40 : decode cX10_takeLeaf 40 = .ok (.putfield 34, 3) := by decide +kernel
theorem dX10_takeLeaf_43 : decode cX10_takeLeaf 43 = .ok (.aload_n 0, 1) := by decide +kernel
theorem dX10_takeLeaf_44 : decode cX10_takeLeaf 44 = .ok (.iload_n 2, 1) := by decide +kernel
theorem dX10_takeLeaf_45 : decode cX10_takeLeaf 45 = .ok (.putfield 37, 3) := by decide +kernel
theorem dX10_takeLeaf_48 : decode cX10_takeLeaf 48 = .ok (.aload_n 0, 1) := by decide +kernel
theorem dX10_takeLeaf_49 : decode cX10_takeLeaf 49 = .ok (.iconst 0, 1) := by decide +kernel
theorem dX10_takeLeaf_50 : decode cX10_takeLeaf 50 = .ok (.putfield 40, 3) := by decide +kernel
theorem dX10_takeLeaf_53 : decode cX10_takeLeaf 53 = .ok (.aload_n 0, 1) := by decide +kernel
theorem dX10_takeLeaf_54 : decode cX10_takeLeaf 54 = .ok (.iconst 0, 1) := by decide +kernel
theorem dX10_takeLeaf_55 : decode cX10_takeLeaf 55 = .ok (.putfield 43, 3) := by decide +kernel
theorem dX10_takeLeaf_58 : decode cX10_takeLeaf 58 = .ok (.return_, 1) := by decide +kernel
theorem dX10_removeLeaf_0 : decode cX10_removeLeaf 0 = .ok (.aload_n 0, 1) := by decide +kernel
theorem dX10_removeLeaf_1 : decode cX10_removeLeaf 1 = .ok (.iconst 0, 1) := by decide +kernel
theorem dX10_removeLeaf_2 : decode cX10_removeLeaf 2 = .ok (.putfield 25, 3) := by decide +kernel
theorem dX10_removeLeaf_5 : decode cX10_removeLeaf 5 = .ok (.aload_n 0, 1) := by decide +kernel
theorem dX10_removeLeaf_6 : decode cX10_removeLeaf 6 = .ok (.iconst 0, 1) := by decide +kernel
theorem dX10_removeLeaf_7 : decode cX10_removeLeaf 7 = .ok (.putfield 28, 3) := by decide +kernel
theorem dX10_removeLeaf_10 : decode cX10_removeLeaf 10 = .ok (.aload_n 0, 1) := by decide +kernel
theorem dX10_removeLeaf_11 : decode cX10_removeLeaf 11 = .ok (.iconst 0, 1) := by decide +kernel
theorem dX10_removeLeaf_12 : decode cX10_removeLeaf 12 = .ok (.putfield 31, 3) := by decide +kernel
theorem dX10_removeLeaf_15 : decode cX10_removeLeaf 15 = .ok (.aload_n 0, 1) := by decide +kernel
theorem dX10_removeLeaf_16 : decode cX10_removeLeaf 16 = .ok (.iconst 0, 1) := by decide +kernel
theorem dX10_removeLeaf_17 : decode cX10_removeLeaf 17 = .ok (.putfield 34, 3) := by decide +kernel
theorem dX10_removeLeaf_20 : decode cX10_removeLeaf 20 = .ok (.aload_n 0, 1) := by decide +kernel
theorem dX10_removeLeaf_21 : decode cX10_removeLeaf 21 = .ok (.iconst 0, 1) := by decide +kernel
theorem dX10_removeLeaf_22 : decode cX10_removeLeaf 22 = .ok (.putfield 37, 3) := by decide +kernel
theorem dX10_removeLeaf_25 : decode cX10_removeLeaf 25 = .ok (.aload_n 0, 1) := by decide +kernel
theorem dX10_removeLeaf_26 : decode cX10_removeLeaf 26 = .ok (.iconst 0, 1) := by decide +kernel
theorem dX10_removeLeaf_27 : decode cX10_removeLeaf 27 = .ok (.putfield 40, 3) := by decide +kernel
theorem dX10_removeLeaf_30 : decode cX10_removeLeaf 30 = .ok (.aload_n 0, 1) := by decide +kernel
theorem dX10_removeLeaf_31 : decode cX10_removeLeaf 31 = .ok (.iconst 0, 1) := by decide +kernel
theorem dX10_removeLeaf_32 : decode cX10_removeLeaf 32 = .ok (.putfield 43, 3) := by decide +kernel
theorem dX10_removeLeaf_35 : decode cX10_removeLeaf 35 = .ok (.return_, 1) := by decide +kernel
theorem dX10_mixLayers_0 : decode cX10_mixLayers 0 = .ok (.aload_n 0, 1) := by decide +kernel
theorem dX10_mixLayers_1 : decode cX10_mixLayers 1 = .ok (.getfield 34, 3) := by decide +kernel
theorem dX10_mixLayers_4 : decode cX10_mixLayers 4 = .ok (.aload_n 0, 1) := by decide +kernel
theorem dX10_mixLayers_5 : decode cX10_mixLayers 5 = .ok (.getfield 37, 3) := by decide +kernel
theorem dX10_mixLayers_8 : decode cX10_mixLayers 8 = .ok (.iadd, 1) := by decide +kernel
theorem dX10_mixLayers_9 : decode cX10_mixLayers 9 = .ok (.istore_n 1, 1) := by decide +kernel
theorem dX10_mixLayers_10 : decode cX10_mixLayers 10 = .ok (.aload_n 0, 1) := by decide +kernel
theorem dX10_mixLayers_11 : decode cX10_mixLayers 11 = .ok (.iload_n 1, 1) := by decide +kernel
theorem dX10_mixLayers_12 : decode cX10_mixLayers 12 = .ok (.iconst 2, 1) := by decide +kernel
theorem dX10_mixLayers_13 : decode cX10_mixLayers 13 = .ok (.idiv, 1) := by decide +kernel
theorem dX10_mixLayers_14 : decode cX10_mixLayers 14 = .ok (.putfield 34, 3) := by decide +kernel
theorem dX10_mixLayers_17 : decode cX10_mixLayers 17 = .ok (.aload_n 0, 1) := by decide +kernel
theorem dX10_mixLayers_18 : decode cX10_mixLayers 18 = .ok (.iload_n 1, 1) := by decide +kernel
theorem dX10_mixLayers_19 : decode cX10_mixLayers 19 = .ok (.aload_n 0, 1) := by decide +kernel
theorem dX10_mixLayers_20 : decode cX10_mixLayers 20 = .ok (.getfield 34, 3) := by decide +kernel
theorem dX10_mixLayers_23 : decode cX10_mixLayers 23 = .ok (.isub, 1) := by decide +kernel
theorem dX10_mixLayers_24 : decode cX10_mixLayers 24 = .ok (.putfield 37, 3) := by decide +kernel
theorem dX10_mixLayers_27 : decode cX10_mixLayers 27 = .ok (.aload_n 0, 1) := by decide +kernel
theorem dX10_mixLayers_28 : decode cX10_mixLayers 28 = .ok (.dup, 1) := by decide +kernel
theorem dX10_mixLayers_29 : decode cX10_mixLayers 29 = .ok (.getfield 43, 3) := by decide +kernel
theorem dX10_mixLayers_32 : decode cX10_mixLayers 32 = .ok (.iconst 2, 1) := by decide +kernel
theorem dX10_mixLayers_33 : decode cX10_mixLayers 33 = .ok (.iadd, 1) := by decide +kernel
theorem dX10_mixLayers_34 : decode cX10_mixLayers 34 = .ok (.putfield 43, 3) := by decide +kernel
theorem dX10_mixLayers_37 : decode cX10_mixLayers 37 = .ok (.return_, 1) := by decide +kernel
theorem dX10_moistureOf_0 : decode cX10_moistureOf 0 = .ok (.iload_n 1, 1) := by decide +kernel
theorem dX10_moistureOf_1 : decode cX10_moistureOf 1 = .ok (.ifCond .ne 10, 3) := by decide +kernel
theorem dX10_moistureOf_4 : decode cX10_moistureOf 4 = .ok (.aload_n 0, 1) := by decide +kernel
theorem dX10_moistureOf_5 : decode cX10_moistureOf 5 = .ok (.getfield 34, 3) := by decide +kernel
theorem dX10_moistureOf_8 : decode cX10_moistureOf 8 = .ok (.goto 7, 3) := by decide +kernel
theorem dX10_moistureOf_11 : decode cX10_moistureOf 11 = .ok (.aload_n 0, 1) := by decide +kernel
theorem dX10_moistureOf_12 : decode cX10_moistureOf 12 = .ok (.getfield 37, 3) := by decide +kernel
theorem dX10_moistureOf_15 : decode cX10_moistureOf 15 = .ok (.ireturn, 1) := by decide +kernel
theorem dX10_gap_0 : decode cX10_gap 0 = .ok (.aload_n 0, 1) := by decide +kernel
theorem dX10_gap_1 : decode cX10_gap 1 = .ok (.getfield 34, 3) := by decide +kernel
theorem dX10_gap_4 : decode cX10_gap 4 = .ok (.aload_n 0, 1) := by decide +kernel
theorem dX10_gap_5 : decode cX10_gap 5 = .ok (.getfield 37, 3) := by decide +kernel
theorem dX10_gap_8 : decode cX10_gap 8 = .ok (.isub, 1) := by decide +kernel
theorem dX10_gap_9 : decode cX10_gap 9 = .ok (.invokestatic 46, 3) := by decide +kernel
theorem dX10_gap_12 : decode cX10_gap 12 = .ok (.ireturn, 1) := by decide +kernel
theorem dX10_quality_0 : decode cX10_quality 0 = .ok (.bipush 100, 2) := by decide +kernel
theorem dX10_quality_2 : decode cX10_quality 2 = .ok (.aload_n 0, 1) := by decide +kernel
theorem dX10_quality_3 : decode cX10_quality 3 = .ok (.invokevirtual 52, 3) := by decide +kernel
theorem dX10_quality_6 : decode cX10_quality 6 = .ok (.isub, 1) := by decide +kernel
theorem dX10_quality_7 : decode cX10_quality 7 = .ok (.iconst 2, 1) := by decide +kernel
theorem dX10_quality_8 : decode cX10_quality 8 = .ok (.aload_n 0, 1) := by decide +kernel
theorem dX10_quality_9 : decode cX10_quality 9 = .ok (.getfield 43, 3) := by decide +kernel
theorem dX10_quality_12 : decode cX10_quality 12 = .ok (.imul, 1) := by decide +kernel
theorem dX10_quality_13 : decode cX10_quality 13 = .ok (.isub, 1) := by decide +kernel
theorem dX10_quality_14 : decode cX10_quality 14 = .ok (.istore_n 1, 1) := by decide +kernel
theorem dX10_quality_15 : decode cX10_quality 15 = .ok (.iload_n 1, 1) := by decide +kernel
theorem dX10_quality_16 : decode cX10_quality 16 = .ok (.ifCond .ge 7, 3) := by decide +kernel
theorem dX10_quality_19 : decode cX10_quality 19 = .ok (.iconst 0, 1) := by decide +kernel
theorem dX10_quality_20 : decode cX10_quality 20 = .ok (.goto 4, 3) := by decide +kernel
theorem dX10_quality_23 : decode cX10_quality 23 = .ok (.iload_n 1, 1) := by decide +kernel
theorem dX10_quality_24 : decode cX10_quality 24 = .ok (.ireturn, 1) := by decide +kernel
theorem dX10_lossAt_0 : decode cX10_lossAt 0 = .ok (.bipush 100, 2) := by decide +kernel
theorem dX10_lossAt_2 : decode cX10_lossAt 2 = .ok (.aload_n 0, 1) := by decide +kernel
theorem dX10_lossAt_3 : decode cX10_lossAt 3 = .ok (.getfield 28, 3) := by decide +kernel
theorem dX10_lossAt_6 : decode cX10_lossAt 6 = .ok (.iadd, 1) := by decide +kernel
theorem dX10_lossAt_7 : decode cX10_lossAt 7 = .ok (.istore_n 2, 1) := by decide +kernel
theorem dX10_lossAt_8 : decode cX10_lossAt 8 = .ok (.aload_n 0, 1) := by decide +kernel
theorem dX10_lossAt_9 : decode cX10_lossAt 9 = .ok (.invokevirtual 56, 3) := by decide +kernel
theorem dX10_lossAt_12 : decode cX10_lossAt 12 = .ok (.ifCond .eq 7, 3) := by decide +kernel
theorem dX10_lossAt_15 : decode cX10_lossAt 15 = .ok (.iload_n 2, 1) := by decide +kernel
theorem dX10_lossAt_16 : decode cX10_lossAt 16 = .ok (.ifCond .gt 7, 3) := by decide +kernel
theorem dX10_lossAt_19 : decode cX10_lossAt 19 = .ok (.iconst 0, 1) := by decide +kernel
theorem dX10_lossAt_20 : decode cX10_lossAt 20 = .ok (.goto 14, 3) := by decide +kernel
theorem dX10_lossAt_23 : decode cX10_lossAt 23 = .ok (.aload_n 0, 1) := by decide +kernel
theorem dX10_lossAt_24 : decode cX10_lossAt 24 = .ok (.getfield 15, 3) := by decide +kernel
theorem dX10_lossAt_27 : decode cX10_lossAt 27 = .ok (.iload_n 1, 1) := by decide +kernel
theorem dX10_lossAt_28 : decode cX10_lossAt 28 = .ok (.imul, 1) := by decide +kernel
theorem dX10_lossAt_29 : decode cX10_lossAt 29 = .ok (.bipush 60, 2) := by decide +kernel
theorem dX10_lossAt_31 : decode cX10_lossAt 31 = .ok (.imul, 1) := by decide +kernel
theorem dX10_lossAt_32 : decode cX10_lossAt 32 = .ok (.iload_n 2, 1) := by decide +kernel
theorem dX10_lossAt_33 : decode cX10_lossAt 33 = .ok (.idiv, 1) := by decide +kernel
theorem dX10_lossAt_34 : decode cX10_lossAt 34 = .ok (.ireturn, 1) := by decide +kernel
theorem dX10_passHour_0 : decode cX10_passHour 0 = .ok (.aload_n 0, 1) := by decide +kernel
theorem dX10_passHour_1 : decode cX10_passHour 1 = .ok (.invokevirtual 56, 3) := by decide +kernel
theorem dX10_passHour_4 : decode cX10_passHour 4 = .ok (.ifCond .ne 5, 3) := by decide +kernel
theorem dX10_passHour_7 : decode cX10_passHour 7 = .ok (.iconst 0, 1) := by decide +kernel
theorem dX10_passHour_8 : decode cX10_passHour 8 = .ok (.ireturn, 1) := by decide +kernel
theorem dX10_passHour_9 : decode cX10_passHour 9 = .ok (.aload_n 0, 1) := by decide +kernel
theorem dX10_passHour_10 : decode cX10_passHour 10 = .ok (.aload_n 0, 1) := by decide +kernel
theorem dX10_passHour_11 : decode cX10_passHour 11 = .ok (.iload_n 1, 1) := by decide +kernel
theorem dX10_passHour_12 : decode cX10_passHour 12 = .ok (.invokevirtual 60, 3) := by decide +kernel
theorem dX10_passHour_15 : decode cX10_passHour 15 = .ok (.invokevirtual 63, 3) := by decide +kernel
theorem dX10_passHour_18 : decode cX10_passHour 18 = .ok (.istore_n 2, 1) := by decide +kernel
theorem dX10_passHour_19 : decode cX10_passHour 19 = .ok (.aload_n 0, 1) := by decide +kernel
theorem dX10_passHour_20 : decode cX10_passHour 20 = .ok (.getfield 15, 3) := by decide +kernel
theorem dX10_passHour_23 : decode cX10_passHour 23 = .ok (.ifCond .le 34, 3) := by decide +kernel
theorem dX10_passHour_26 : decode cX10_passHour 26 = .ok (.aload_n 0, 1) := by decide +kernel
theorem dX10_passHour_27 : decode cX10_passHour 27 = .ok (.aload_n 0, 1) := by decide +kernel
theorem dX10_passHour_28 : decode cX10_passHour 28 = .ok (.getfield 40, 3) := by decide +kernel
theorem dX10_passHour_31 : decode cX10_passHour 31 = .ok (.aload_n 0, 1) := by decide +kernel
theorem dX10_passHour_32 : decode cX10_passHour 32 = .ok (.getfield 15, 3) := by decide +kernel
theorem dX10_passHour_35 : decode cX10_passHour 35 = .ok (.if_icmp .ge 7, 3) := by decide +kernel
theorem dX10_passHour_38 : decode cX10_passHour 38 = .ok (.iconst 0, 1) := by decide +kernel
theorem dX10_passHour_39 : decode cX10_passHour 39 = .ok (.goto 12, 3) := by decide +kernel
theorem dX10_passHour_42 : decode cX10_passHour 42 = .ok (.aload_n 0, 1) := by decide +kernel
theorem dX10_passHour_43 : decode cX10_passHour 43 = .ok (.getfield 40, 3) := by decide +kernel
theorem dX10_passHour_46 : decode cX10_passHour 46 = .ok (.aload_n 0, 1) := by decide +kernel
theorem dX10_passHour_47 : decode cX10_passHour 47 = .ok (.getfield 15, 3) := by decide +kernel
theorem dX10_passHour_50 : decode cX10_passHour 50 = .ok (.isub, 1) := by decide +kernel
theorem dX10_passHour_51 : decode cX10_passHour 51 = .ok (.putfield 40, 3) := by decide +kernel
theorem dX10_passHour_54 : decode cX10_passHour 54 = .ok (.goto 22, 3) := by decide +kernel
theorem dX10_passHour_57 : decode cX10_passHour 57 = .ok (.aload_n 0, 1) := by decide +kernel
theorem dX10_passHour_58 : decode cX10_passHour 58 = .ok (.getfield 40, 3) := by decide +kernel
theorem dX10_passHour_61 : decode cX10_passHour 61 = .ok (.bipush 20, 2) := by decide +kernel
theorem dX10_passHour_63 : decode cX10_passHour 63 = .ok (.if_icmp .ge 13, 3) := by decide +kernel
theorem dX10_passHour_66 : decode cX10_passHour 66 = .ok (.aload_n 0, 1) := by decide +kernel
theorem dX10_passHour_67 : decode cX10_passHour 67 = .ok (.dup, 1) := by decide +kernel
theorem dX10_passHour_68 : decode cX10_passHour 68 = .ok (.getfield 40, 3) := by decide +kernel
theorem dX10_passHour_71 : decode cX10_passHour 71 = .ok (.iconst 1, 1) := by decide +kernel
theorem dX10_passHour_72 : decode cX10_passHour 72 = .ok (.iadd, 1) := by decide +kernel
theorem dX10_passHour_73 : decode cX10_passHour 73 = .ok (.putfield 40, 3) := by decide +kernel
theorem dX10_passHour_76 : decode cX10_passHour 76 = .ok (.aload_n 0, 1) := by decide +kernel
theorem dX10_passHour_77 : decode cX10_passHour 77 = .ok (.getfield 40, 3) := by decide +kernel
theorem dX10_passHour_80 : decode cX10_passHour 80 = .ok (.bipush 10, 2) := by decide +kernel
theorem dX10_passHour_82 : decode cX10_passHour 82 = .ok (.if_icmp .lt 13, 3) := by decide +kernel
theorem dX10_passHour_85 : decode cX10_passHour 85 = .ok (.aload_n 0, 1) := by decide +kernel
theorem dX10_passHour_86 : decode cX10_passHour 86 = .ok (.dup, 1) := by decide +kernel
theorem dX10_passHour_87 : decode cX10_passHour 87 = .ok (.getfield 43, 3) := by decide +kernel
theorem dX10_passHour_90 : decode cX10_passHour 90 = .ok (.iconst 1, 1) := by decide +kernel
theorem dX10_passHour_91 : decode cX10_passHour 91 = .ok (.iadd, 1) := by decide +kernel
theorem dX10_passHour_92 : decode cX10_passHour 92 = .ok (.putfield 43, 3) := by decide +kernel
theorem dX10_passHour_95 : decode cX10_passHour 95 = .ok (.iload_n 2, 1) := by decide +kernel
theorem dX10_passHour_96 : decode cX10_passHour 96 = .ok (.ireturn, 1) := by decide +kernel
theorem dX10_loseMoisture_0 : decode cX10_loseMoisture 0 = .ok (.aload_n 0, 1) := by decide +kernel
theorem dX10_loseMoisture_1 : decode cX10_loseMoisture 1 = .ok (.getfield 34, 3) := by decide +kernel
theorem dX10_loseMoisture_4 : decode cX10_loseMoisture 4 = .ok (.aload_n 0, 1) := by decide +kernel
theorem dX10_loseMoisture_5 : decode cX10_loseMoisture 5 = .ok (.getfield 37, 3) := by decide +kernel
theorem dX10_loseMoisture_8 : decode cX10_loseMoisture 8 = .ok (.iadd, 1) := by decide +kernel
theorem dX10_loseMoisture_9 : decode cX10_loseMoisture 9 = .ok (.istore_n 2, 1) := by decide +kernel
theorem dX10_loseMoisture_10 : decode cX10_loseMoisture 10 = .ok (.aload_n 0, 1) := by decide +kernel
theorem dX10_loseMoisture_11 : decode cX10_loseMoisture 11 = .ok (.aload_n 0, 1) := by decide +kernel
theorem dX10_loseMoisture_12 : decode cX10_loseMoisture 12 = .ok (.getfield 34, 3) := by decide +kernel
theorem dX10_loseMoisture_15 : decode cX10_loseMoisture 15 = .ok (.aload_n 0, 1) := by decide +kernel
theorem dX10_loseMoisture_16 : decode cX10_loseMoisture 16 = .ok (.getfield 18, 3) := by decide +kernel
theorem dX10_loseMoisture_19 : decode cX10_loseMoisture 19 = .ok (.ifCond .eq 7, 3) := by decide +kernel
theorem dX10_loseMoisture_22 : decode cX10_loseMoisture 22 = .ok (.iload_n 1, 1) := by decide +kernel
theorem dX10_loseMoisture_23 : decode cX10_loseMoisture 23 = .ok (.goto 6, 3) := by decide +kernel
theorem dX10_loseMoisture_26 : decode cX10_loseMoisture 26 = .ok (.iload_n 1, 1) := by decide +kernel
theorem dX10_loseMoisture_27 : decode cX10_loseMoisture 27 = .ok (.iconst 2, 1) := by decide +kernel
theorem dX10_loseMoisture_28 : decode cX10_loseMoisture 28 = .ok (.idiv, 1) := by decide +kernel
theorem dX10_loseMoisture_29 : decode cX10_loseMoisture 29 = .ok (.isub, 1) := by decide +kernel
theorem dX10_loseMoisture_30 : decode cX10_loseMoisture 30 = .ok (.invokestatic 66, 3) := by decide +kernel
theorem dX10_loseMoisture_33 : decode cX10_loseMoisture 33 = .ok (.putfield 34, 3) := by decide +kernel
theorem dX10_loseMoisture_36 : decode cX10_loseMoisture 36 = .ok (.aload_n 0, 1) := by decide +kernel
theorem dX10_loseMoisture_37 : decode cX10_loseMoisture 37 = .ok (.aload_n 0, 1) := by decide +kernel
theorem dX10_loseMoisture_38 : decode cX10_loseMoisture 38 = .ok (.getfield 37, 3) := by decide +kernel
theorem dX10_loseMoisture_41 : decode cX10_loseMoisture 41 = .ok (.aload_n 0, 1) := by decide +kernel
theorem dX10_loseMoisture_42 : decode cX10_loseMoisture 42 = .ok (.getfield 18, 3) := by decide +kernel
theorem dX10_loseMoisture_45 : decode cX10_loseMoisture 45 = .ok (.ifCond .eq 9, 3) := by decide +kernel
theorem dX10_loseMoisture_48 : decode cX10_loseMoisture 48 = .ok (.iload_n 1, 1) := by decide +kernel
theorem dX10_loseMoisture_49 : decode cX10_loseMoisture 49 = .ok (.iconst 2, 1) := by decide +kernel
theorem dX10_loseMoisture_50 : decode cX10_loseMoisture 50 = .ok (.idiv, 1) := by decide +kernel
theorem dX10_loseMoisture_51 : decode cX10_loseMoisture 51 = .ok (.goto 4, 3) := by decide +kernel
theorem dX10_loseMoisture_54 : decode cX10_loseMoisture 54 = .ok (.iload_n 1, 1) := by decide +kernel
theorem dX10_loseMoisture_55 : decode cX10_loseMoisture 55 = .ok (.isub, 1) := by decide +kernel
theorem dX10_loseMoisture_56 : decode cX10_loseMoisture 56 = .ok (.invokestatic 66, 3) := by decide +kernel
theorem dX10_loseMoisture_59 : decode cX10_loseMoisture 59 = .ok (.putfield 37, 3) := by decide +kernel
theorem dX10_loseMoisture_62 : decode cX10_loseMoisture 62 = .ok (.iload_n 2, 1) := by decide +kernel
theorem dX10_loseMoisture_63 : decode cX10_loseMoisture 63 = .ok (.aload_n 0, 1) := by decide +kernel
theorem dX10_loseMoisture_64 : decode cX10_loseMoisture 64 = .ok (.getfield 34, 3) := by decide +kernel
theorem dX10_loseMoisture_67 : decode cX10_loseMoisture 67 = .ok (.isub, 1) := by decide +kernel
theorem dX10_loseMoisture_68 : decode cX10_loseMoisture 68 = .ok (.aload_n 0, 1) := by decide +kernel
theorem dX10_loseMoisture_69 : decode cX10_loseMoisture 69 = .ok (.getfield 37, 3) := by decide +kernel
theorem dX10_loseMoisture_72 : decode cX10_loseMoisture 72 = .ok (.isub, 1) := by decide +kernel
theorem dX10_loseMoisture_73 : decode cX10_loseMoisture 73 = .ok (.aload_n 0, 1) := by decide +kernel
theorem dX10_loseMoisture_74 : decode cX10_loseMoisture 74 = .ok (.getfield 25, 3) := by decide +kernel
theorem dX10_loseMoisture_77 : decode cX10_loseMoisture 77 = .ok (.imul, 1) := by decide +kernel
theorem dX10_loseMoisture_78 : decode cX10_loseMoisture 78 = .ok (.istore_n 3, 1) := by decide +kernel
theorem dX10_loseMoisture_79 : decode cX10_loseMoisture 79 = .ok (.aload_n 0, 1) := by decide +kernel
theorem dX10_loseMoisture_80 : decode cX10_loseMoisture 80 = .ok (.dup, 1) := by decide +kernel
theorem dX10_loseMoisture_81 : decode cX10_loseMoisture 81 = .ok (.getfield 31, 3) := by decide +kernel
theorem dX10_loseMoisture_84 : decode cX10_loseMoisture 84 = .ok (.iload_n 3, 1) := by decide +kernel
theorem dX10_loseMoisture_85 : decode cX10_loseMoisture 85 = .ok (.isub, 1) := by decide +kernel
theorem dX10_loseMoisture_86 : decode cX10_loseMoisture 86 = .ok (.putfield 31, 3) := by decide +kernel
theorem dX10_loseMoisture_89 : decode cX10_loseMoisture 89 = .ok (.iload_n 3, 1) := by decide +kernel
theorem dX10_loseMoisture_90 : decode cX10_loseMoisture 90 = .ok (.ireturn, 1) := by decide +kernel
theorem dX10_countViolations_0 : decode cX10_countViolations 0 = .ok (.aload_n 0, 1) := by decide +kernel
theorem dX10_countViolations_1 : decode cX10_countViolations 1 = .ok (.invokevirtual 56, 3) := by decide +kernel
theorem dX10_countViolations_4 : decode cX10_countViolations 4 = .ok (.ifCond .ne 5, 3) := by decide +kernel
theorem dX10_countViolations_7 : decode cX10_countViolations 7 = .ok (.iconst 0, 1) := by decide +kernel
theorem dX10_countViolations_8 : decode cX10_countViolations 8 = .ok (.ireturn, 1) := by decide +kernel
theorem dX10_countViolations_9 : decode cX10_countViolations 9 = .ok (.aload_n 0, 1) := by decide +kernel
theorem dX10_countViolations_10 : decode cX10_countViolations 10 = .ok (.getfield 25, 3) := by decide +kernel
theorem dX10_countViolations_13 : decode cX10_countViolations 13 = .ok (.aload_n 0, 1) := by decide +kernel
theorem dX10_countViolations_14 : decode cX10_countViolations 14 = .ok (.getfield 9, 3) := by decide +kernel
theorem dX10_countViolations_17 : decode cX10_countViolations 17 = .ok (.if_icmp .le 7, 3) := by decide +kernel
theorem dX10_countViolations_20 : decode cX10_countViolations 20 = .ok (.iconst 1, 1) := by decide +kernel
theorem dX10_countViolations_21 : decode cX10_countViolations 21 = .ok (.goto 4, 3) := by decide +kernel
theorem dX10_countViolations_24 : decode cX10_countViolations 24 = .ok (.iconst 0, 1) := by decide +kernel
theorem dX10_countViolations_25 : decode cX10_countViolations 25 = .ok (.istore_n 1, 1) := by decide +kernel
theorem dX10_countViolations_26 : decode cX10_countViolations 26 = .ok (.iload_n 1, 1) := by decide +kernel
theorem dX10_countViolations_27 : decode cX10_countViolations 27 = .ok (.aload_n 0, 1) := by decide +kernel
theorem dX10_countViolations_28 : decode cX10_countViolations 28 = .ok (.getfield 34, 3) := by decide +kernel
theorem dX10_countViolations_31 : decode cX10_countViolations 31 = .ok (.sipush 300, 3) := by decide +kernel
theorem dX10_countViolations_34 : decode cX10_countViolations 34 = .ok (.if_icmp .lt 13, 3) := by decide +kernel
theorem dX10_countViolations_37 : decode cX10_countViolations 37 = .ok (.aload_n 0, 1) := by decide +kernel
theorem dX10_countViolations_38 : decode cX10_countViolations 38 = .ok (.getfield 34, 3) := by decide +kernel
theorem dX10_countViolations_41 : decode cX10_countViolations 41 = .ok (.sipush 900, 3) := by decide +kernel
theorem dX10_countViolations_44 : decode cX10_countViolations 44 = .ok (.if_icmp .le 7, 3) := by decide +kernel
theorem dX10_countViolations_47 : decode cX10_countViolations 47 = .ok (.iconst 1, 1) := by decide +kernel
theorem dX10_countViolations_48 : decode cX10_countViolations 48 = .ok (.goto 4, 3) := by decide +kernel
theorem dX10_countViolations_51 : decode cX10_countViolations 51 = .ok (.iconst 0, 1) := by decide +kernel
theorem dX10_countViolations_52 : decode cX10_countViolations 52 = .ok (.iadd, 1) := by decide +kernel
theorem dX10_countViolations_53 : decode cX10_countViolations 53 = .ok (.istore_n 1, 1) := by decide +kernel
theorem dX10_countViolations_54 : decode cX10_countViolations 54 = .ok (.iload_n 1, 1) := by decide +kernel
theorem dX10_countViolations_55 : decode cX10_countViolations 55 = .ok (.aload_n 0, 1) := by decide +kernel
theorem dX10_countViolations_56 : decode cX10_countViolations 56 = .ok (.getfield 37, 3) := by decide +kernel
theorem dX10_countViolations_59 : decode cX10_countViolations 59 = .ok (.sipush 300, 3) := by decide +kernel
theorem dX10_countViolations_62 : decode cX10_countViolations 62 = .ok (.if_icmp .lt 13, 3) := by decide +kernel
theorem dX10_countViolations_65 : decode cX10_countViolations 65 = .ok (.aload_n 0, 1) := by decide +kernel
theorem dX10_countViolations_66 : decode cX10_countViolations 66 = .ok (.getfield 37, 3) := by decide +kernel
theorem dX10_countViolations_69 : decode cX10_countViolations 69 = .ok (.sipush 900, 3) := by decide +kernel
theorem dX10_countViolations_72 : decode cX10_countViolations 72 = .ok (.if_icmp .le 7, 3) := by decide +kernel
theorem dX10_countViolations_75 : decode cX10_countViolations 75 = .ok (.iconst 1, 1) := by decide +kernel
theorem dX10_countViolations_76 : decode cX10_countViolations 76 = .ok (.goto 4, 3) := by decide +kernel
theorem dX10_countViolations_79 : decode cX10_countViolations 79 = .ok (.iconst 0, 1) := by decide +kernel
theorem dX10_countViolations_80 : decode cX10_countViolations 80 = .ok (.iadd, 1) := by decide +kernel
theorem dX10_countViolations_81 : decode cX10_countViolations 81 = .ok (.istore_n 1, 1) := by decide +kernel
theorem dX10_countViolations_82 : decode cX10_countViolations 82 = .ok (.iload_n 1, 1) := by decide +kernel
theorem dX10_countViolations_83 : decode cX10_countViolations 83 = .ok (.aload_n 0, 1) := by decide +kernel
theorem dX10_countViolations_84 : decode cX10_countViolations 84 = .ok (.getfield 40, 3) := by decide +kernel
theorem dX10_countViolations_87 : decode cX10_countViolations 87 = .ok (.ifCond .lt 12, 3) := by decide +kernel
theorem dX10_countViolations_90 : decode cX10_countViolations 90 = .ok (.aload_n 0, 1) := by decide +kernel
theorem dX10_countViolations_91 : decode cX10_countViolations 91 = .ok (.getfield 40, 3) := by decide +kernel
theorem dX10_countViolations_94 : decode cX10_countViolations 94 = .ok (.bipush 20, 2) := by decide +kernel
theorem dX10_countViolations_96 : decode cX10_countViolations 96 = .ok (.if_icmp .le 7, 3) := by decide +kernel
theorem dX10_countViolations_99 : decode cX10_countViolations 99 = .ok (.iconst 1, 1) := by decide +kernel
theorem dX10_countViolations_100 : decode cX10_countViolations 100 = .ok (.goto 4, 3) := by decide +kernel
theorem dX10_countViolations_103 : decode cX10_countViolations 103 = .ok (.iconst 0, 1) := by decide +kernel
theorem dX10_countViolations_104 : decode cX10_countViolations 104 = .ok (.iadd, 1) := by decide +kernel
theorem dX10_countViolations_105 : decode cX10_countViolations 105 = .ok (.istore_n 1, 1) := by decide +kernel
theorem dX10_countViolations_106 : decode cX10_countViolations 106 = .ok (.iload_n 1, 1) := by decide +kernel
theorem dX10_countViolations_107 : decode cX10_countViolations 107 = .ok (.ireturn, 1) := by decide +kernel
theorem dX11_init_0 : decode cX11_init 0 = .ok (.aload_n 0, 1) := by decide +kernel
theorem dX11_init_1 : decode cX11_init 1 = .ok (.invokespecial 3, 3) := by decide +kernel
theorem dX11_init_4 : decode cX11_init 4 = .ok (.aload_n 0, 1) := by decide +kernel
theorem dX11_init_5 : decode cX11_init 5 = .ok (.new 9, 3) := by decide +kernel
theorem dX11_init_8 : decode cX11_init 8 = .ok (.dup, 1) := by decide +kernel
theorem dX11_init_9 : decode cX11_init 9 = .ok (.invokespecial 11, 3) := by decide +kernel
theorem dX11_init_12 : decode cX11_init 12 = .ok (.putfield 12, 3) := by decide +kernel
theorem dX11_init_15 : decode cX11_init 15 = .ok (.aload_n 0, 1) := by decide +kernel
theorem dX11_init_16 : decode cX11_init 16 = .ok (.new 9, 3) := by decide +kernel
theorem dX11_init_19 : decode cX11_init 19 = .ok (.dup, 1) := by decide +kernel
theorem dX11_init_20 : decode cX11_init 20 = .ok (.invokespecial 11, 3) := by decide +kernel
theorem dX11_init_23 : decode cX11_init 23 = .ok (.putfield 16, 3) := by decide +kernel
theorem dX11_init_26 : decode cX11_init 26 = .ok (.aload_n 0, 1) := by decide +kernel
theorem dX11_init_27 : decode cX11_init 27 = .ok (.new 19, 3) := by decide +kernel
theorem dX11_init_30 : decode cX11_init 30 = .ok (.dup, 1) := by decide +kernel
theorem dX11_init_31 : decode cX11_init 31 = .ok (.invokespecial 21, 3) := by decide +kernel
theorem dX11_init_34 : decode cX11_init 34 = .ok (.putfield 22, 3) := by decide +kernel
theorem dX11_init_37 : decode cX11_init 37 = .ok (.aload_n 0, 1) := by decide +kernel
theorem dX11_init_38 : decode cX11_init 38 = .ok (.new 26, 3) := by decide +kernel
theorem dX11_init_41 : decode cX11_init 41 = .ok (.dup, 1) := by decide +kernel
theorem dX11_init_42 : decode cX11_init 42 = .ok (.invokespecial 28, 3) := by decide +kernel
theorem dX11_init_45 : decode cX11_init 45 = .ok (.putfield 29, 3) := by decide +kernel
theorem dX11_init_48 : decode cX11_init 48 = .ok (.aload_n 0, 1) := by decide +kernel
theorem dX11_init_49 : decode cX11_init 49 = .ok (.new 33, 3) := by decide +kernel
theorem dX11_init_52 : decode cX11_init 52 = .ok (.dup, 1) := by decide +kernel
theorem dX11_init_53 : decode cX11_init 53 = .ok (.invokespecial 35, 3) := by decide +kernel
theorem dX11_init_56 : decode cX11_init 56 = .ok (.putfield 36, 3) := by decide +kernel
theorem dX11_init_59 : decode cX11_init 59 = .ok (.aload_n 0, 1) := by decide +kernel
theorem dX11_init_60 : decode cX11_init 60 = .ok (.new 40, 3) := by decide +kernel
theorem dX11_init_63 : decode cX11_init 63 = .ok (.dup, 1) := by decide +kernel
theorem dX11_init_64 : decode cX11_init 64 = .ok (.invokespecial 42, 3) := by decide +kernel
theorem dX11_init_67 : decode cX11_init 67 = .ok (.putfield 43, 3) := by decide +kernel
theorem dX11_init_70 : decode cX11_init 70 = .ok (.aload_n 0, 1) := by decide +kernel
theorem dX11_init_71 : decode cX11_init 71 = .ok (.getfield 12, 3) := by decide +kernel
theorem dX11_init_74 : decode cX11_init 74 = .ok (.bipush 100, 2) := by decide +kernel
theorem dX11_init_76 : decode cX11_init 76 = .ok (.invokevirtual 47, 3) := by decide +kernel
theorem dX11_init_79 : decode cX11_init 79 = .ok (.pop, 1) := by decide +kernel
theorem dX11_init_80 : decode cX11_init 80 = .ok (.aload_n 0, 1) := by decide +kernel
theorem dX11_init_81 : decode cX11_init 81 = .ok (.getfield 12, 3) := by decide +kernel
theorem dX11_init_84 : decode cX11_init 84 = .ok (.sipush 200, 3) := by decide +kernel
theorem dX11_init_87 : decode cX11_init 87 = .ok (.invokevirtual 47, 3) := by decide +kernel
theorem dX11_init_90 : decode cX11_init 90 = .ok (.pop, 1) := by decide +kernel
theorem dX11_init_91 : decode cX11_init 91 = .ok (.aload_n 0, 1) := by decide +kernel
theorem dX11_init_92 : decode cX11_init 92 = .ok (.getfield 12, 3) := by decide +kernel
theorem dX11_init_95 : decode cX11_init 95 = .ok (.bipush 50, 2) := by decide +kernel
theorem dX11_init_97 : decode cX11_init 97 = .ok (.invokevirtual 47, 3) := by decide +kernel
theorem dX11_init_100 : decode cX11_init 100 = .ok (.pop, 1) := by decide +kernel
theorem dX11_init_101 : decode cX11_init 101 = .ok (.aload_n 0, 1) := by decide +kernel
theorem dX11_init_102 : decode cX11_init 102 = .ok (.getfield 12, 3) := by decide +kernel
theorem dX11_init_105 : decode cX11_init 105 = .ok (.aload_n 0, 1) := by decide +kernel
theorem dX11_init_106 : decode cX11_init 106 = .ok (.getfield 12, 3) := by decide +kernel
theorem dX11_init_109 : decode cX11_init 109 = .ok (.iconst 0, 1) := by decide +kernel
theorem dX11_init_110 : decode cX11_init 110 = .ok (.invokevirtual 51, 3) := by decide +kernel
theorem dX11_init_113 : decode cX11_init 113 = .ok (.bipush 50, 2) := by decide +kernel
theorem dX11_init_115 : decode cX11_init 115 = .ok (.sipush 760, 3) := by decide +kernel
theorem dX11_init_118 : decode cX11_init 118 = .ok (.invokevirtual 55, 3) := by decide +kernel
theorem dX11_init_121 : decode cX11_init 121 = .ok (.aload_n 0, 1) := by decide +kernel
theorem dX11_init_122 : decode cX11_init 122 = .ok (.getfield 12, 3) := by decide +kernel
theorem dX11_init_125 : decode cX11_init 125 = .ok (.aload_n 0, 1) := by decide +kernel
theorem dX11_init_126 : decode cX11_init 126 = .ok (.getfield 12, 3) := by decide +kernel
theorem dX11_init_129 : decode cX11_init 129 = .ok (.iconst 1, 1) := by decide +kernel
theorem dX11_init_130 : decode cX11_init 130 = .ok (.invokevirtual 51, 3) := by decide +kernel
theorem dX11_init_133 : decode cX11_init 133 = .ok (.sipush 200, 3) := by decide +kernel
theorem dX11_init_136 : decode cX11_init 136 = .ok (.sipush 780, 3) := by decide +kernel
theorem dX11_init_139 : decode cX11_init 139 = .ok (.invokevirtual 55, 3) := by decide +kernel
theorem dX11_init_142 : decode cX11_init 142 = .ok (.aload_n 0, 1) := by decide +kernel
theorem dX11_init_143 : decode cX11_init 143 = .ok (.getfield 12, 3) := by decide +kernel
theorem dX11_init_146 : decode cX11_init 146 = .ok (.iconst 0, 1) := by decide +kernel
theorem dX11_init_147 : decode cX11_init 147 = .ok (.invokevirtual 51, 3) := by decide +kernel
theorem dX11_init_150 : decode cX11_init 150 = .ok (.iconst 3, 1) := by decide +kernel
theorem dX11_init_151 : decode cX11_init 151 = .ok (.putfield 59, 3) := by decide +kernel
theorem dX11_init_154 : decode cX11_init 154 = .ok (.aload_n 0, 1) := by decide +kernel
theorem dX11_init_155 : decode cX11_init 155 = .ok (.getfield 12, 3) := by decide +kernel
theorem dX11_init_158 : decode cX11_init 158 = .ok (.iconst 1, 1) := by decide +kernel
theorem dX11_init_159 : decode cX11_init 159 = .ok (.invokevirtual 51, 3) := by decide +kernel
theorem dX11_init_162 : decode cX11_init 162 = .ok (.iconst 4, 1) := by decide +kernel
theorem dX11_init_163 : decode cX11_init 163 = .ok (.putfield 59, 3) := by decide +kernel
theorem dX11_init_166 : decode cX11_init 166 = .ok (.aload_n 0, 1) := by decide +kernel
theorem dX11_init_167 : decode cX11_init 167 = .ok (.getfield 12, 3) := by decide +kernel
theorem dX11_init_170 : decode cX11_init 170 = .ok (.getfield 63, 3) := by decide +kernel
theorem dX11_init_173 : decode cX11_init 173 = .ok (.iconst 1, 1) := by decide +kernel
theorem dX11_init_174 : decode cX11_init 174 = .ok (.invokevirtual 67, 3) := by decide +kernel
theorem dX11_init_177 : decode cX11_init 177 = .ok (.aload_n 0, 1) := by decide +kernel
theorem dX11_init_178 : decode cX11_init 178 = .ok (.getfield 12, 3) := by decide +kernel
theorem dX11_init_181 : decode cX11_init 181 = .ok (.iconst 0, 1) := by decide +kernel
theorem dX11_init_182 : decode cX11_init 182 = .ok (.iconst 1, 1) := by decide +kernel
theorem dX11_init_183 : decode cX11_init 183 = .ok (.bipush 10, 2) := by decide +kernel
theorem dX11_init_185 : decode cX11_init 185 = .ok (.invokevirtual 73, 3) := by decide +kernel
theorem dX11_init_188 : decode cX11_init 188 = .ok (.pop, 1) := by decide +kernel
theorem dX11_init_189 : decode cX11_init 189 = .ok (.aload_n 0, 1) := by decide +kernel
theorem dX11_init_190 : decode cX11_init 190 = .ok (.getfield 12, 3) := by decide +kernel
theorem dX11_init_193 : decode cX11_init 193 = .ok (.iconst 1, 1) := by decide +kernel
theorem dX11_init_194 : decode cX11_init 194 = .ok (.iconst 0, 1) := by decide +kernel
theorem dX11_init_195 : decode cX11_init 195 = .ok (.bipush (-5), 2) := by decide +kernel
theorem dX11_init_197 : decode cX11_init 197 = .ok (.invokevirtual 73, 3) := by decide +kernel
theorem dX11_init_200 : decode cX11_init 200 = .ok (.pop, 1) := by decide +kernel
theorem dX11_init_201 : decode cX11_init 201 = .ok (.aload_n 0, 1) := by decide +kernel
theorem dX11_init_202 : decode cX11_init 202 = .ok (.getfield 12, 3) := by decide +kernel
theorem dX11_init_205 : decode cX11_init 205 = .ok (.iconst 2, 1) := by decide +kernel
theorem dX11_init_206 : decode cX11_init 206 = .ok (.invokevirtual 77, 3) := by decide +kernel
theorem dX11_init_209 : decode cX11_init 209 = .ok (.aload_n 0, 1) := by decide +kernel
theorem dX11_init_210 : decode cX11_init 210 = .ok (.getfield 12, 3) := by decide +kernel
theorem dX11_init_213 : decode cX11_init 213 = .ok (.iconst 0, 1) := by decide +kernel
theorem dX11_init_214 : decode cX11_init 214 = .ok (.invokevirtual 51, 3) := by decide +kernel
theorem dX11_init_217 : decode cX11_init 217 = .ok (.iconst 0, 1) := by decide +kernel
theorem dX11_init_218 : decode cX11_init 218 = .ok (.putfield 80, 3) := by decide +kernel
theorem dX11_init_221 : decode cX11_init 221 = .ok (.aload_n 0, 1) := by decide +kernel
theorem dX11_init_222 : decode cX11_init 222 = .ok (.getfield 12, 3) := by decide +kernel
theorem dX11_init_225 : decode cX11_init 225 = .ok (.iconst 1, 1) := by decide +kernel
theorem dX11_init_226 : decode cX11_init 226 = .ok (.invokevirtual 77, 3) := by decide +kernel
theorem dX11_init_229 : decode cX11_init 229 = .ok (.return_, 1) := by decide +kernel
theorem dX11_addTrough_0 : decode cX11_addTrough 0 = .ok (.iload_n 1, 1) := by decide +kernel
theorem dX11_addTrough_1 : decode cX11_addTrough 1 = .ok (.bipush 10, 2) := by decide +kernel
theorem dX11_addTrough_3 : decode cX11_addTrough 3 = .ok (.sipush 500, 3) := by decide +kernel
theorem dX11_addTrough_6 : decode cX11_addTrough 6 = .ok (.invokestatic 96, 3) := by decide +kernel
theorem dX11_addTrough_9 : decode cX11_addTrough 9 = .ok (.aload_n 0, 1) := by decide +kernel
theorem dX11_addTrough_10 : decode cX11_addTrough 10 = .ok (.getfield 12, 3) := by decide +kernel
theorem dX11_addTrough_13 : decode cX11_addTrough 13 = .ok (.invokevirtual 117, 3) := by decide +kernel
theorem dX11_addTrough_16 : decode cX11_addTrough 16 = .ok (.ifCond .ne 7, 3) := by decide +kernel
theorem dX11_addTrough_19 : decode cX11_addTrough 19 = .ok (.iconst 1, 1) := by decide +kernel
theorem dX11_addTrough_20 : decode cX11_addTrough 20 = .ok (.goto 4, 3) := by decide +kernel
theorem dX11_addTrough_23 : decode cX11_addTrough 23 = .ok (.iconst 0, 1) := by decide +kernel
theorem dX11_addTrough_24 : decode cX11_addTrough 24 = .ok (.invokestatic 120, 3) := by decide +kernel
theorem dX11_addTrough_27 : decode cX11_addTrough 27 = .ok (.aload_n 0, 1) := by decide +kernel
theorem dX11_addTrough_28 : decode cX11_addTrough 28 = .ok (.getfield 22, 3) := by decide +kernel
theorem dX11_addTrough_31 : decode cX11_addTrough 31 = .ok (.aload_n 0, 1) := by decide +kernel
theorem dX11_addTrough_32 : decode cX11_addTrough 32 = .ok (.getfield 12, 3) := by decide +kernel
theorem dX11_addTrough_35 : decode cX11_addTrough 35 = .ok (.invokevirtual 104, 3) := by decide +kernel
theorem dX11_addTrough_38 : decode cX11_addTrough 38 = .ok (.aload_n 0, 1) := by decide +kernel
theorem dX11_addTrough_39 : decode cX11_addTrough 39 = .ok (.getfield 12, 3) := by decide +kernel
theorem dX11_addTrough_42 : decode cX11_addTrough 42 = .ok (.iload_n 1, 1) := by decide +kernel
theorem dX11_addTrough_43 : decode cX11_addTrough 43 = .ok (.invokevirtual 47, 3) := by decide +kernel
theorem dX11_addTrough_46 : decode cX11_addTrough 46 = .ok (.ireturn, 1) := by decide +kernel
theorem dX11_load_0 : decode cX11_load 0 = .ok (.aload_n 0, 1) := by decide +kernel
theorem dX11_load_1 : decode cX11_load 1 = .ok (.iload_n 1, 1) := by decide +kernel
theorem dX11_load_2 : decode cX11_load 2 = .ok (.invokevirtual 124, 3) := by decide +kernel
theorem dX11_load_5 : decode cX11_load 5 = .ok (.astore 4, 2) := by decide +kernel
theorem dX11_load_7 : decode cX11_load 7 = .ok (.iload_n 2, 1) := by decide +kernel
theorem dX11_load_8 : decode cX11_load 8 = .ok (.iconst 1, 1) := by decide +kernel
theorem dX11_load_9 : decode cX11_load 9 = .ok (.aload 4, 2) := by decide +kernel
theorem dX11_load_11 : decode cX11_load 11 = .ok (.getfield 127, 3) := by decide +kernel
theorem dX11_load_14 : decode cX11_load 14 = .ok (.invokestatic 96, 3) := by decide +kernel
theorem dX11_load_17 : decode cX11_load 17 = .ok (.iload_n 3, 1) := by decide +kernel
theorem dX11_load_18 : decode cX11_load 18 = .ok (.sipush 600, 3) := by decide +kernel
theorem dX11_load_21 : decode cX11_load 21 = .ok (.sipush 900, 3) := by decide +kernel
theorem dX11_load_24 : decode cX11_load 24 = .ok (.invokestatic 96, 3) := by decide +kernel
theorem dX11_load_27 : decode cX11_load 27 = .ok (.aload 4, 2) := by decide +kernel
theorem dX11_load_29 : decode cX11_load 29 = .ok (.invokevirtual 130, 3) := by decide +kernel
theorem dX11_load_32 : decode cX11_load 32 = .ok (.invokestatic 120, 3) := by decide +kernel
theorem dX11_load_35 : decode cX11_load 35 = .ok (.aload_n 0, 1) := by decide +kernel
theorem dX11_load_36 : decode cX11_load 36 = .ok (.getfield 22, 3) := by decide +kernel
theorem dX11_load_39 : decode cX11_load 39 = .ok (.aload_n 0, 1) := by decide +kernel
theorem dX11_load_40 : decode cX11_load 40 = .ok (.getfield 12, 3) := by decide +kernel
theorem dX11_load_43 : decode cX11_load 43 = .ok (.invokevirtual 104, 3) := by decide +kernel
theorem dX11_load_46 : decode cX11_load 46 = .ok (.aload_n 0, 1) := by decide +kernel
theorem dX11_load_47 : decode cX11_load 47 = .ok (.getfield 12, 3) := by decide +kernel
theorem dX11_load_50 : decode cX11_load 50 = .ok (.aload 4, 2) := by decide +kernel
theorem dX11_load_52 : decode cX11_load 52 = .ok (.iload_n 2, 1) := by decide +kernel
theorem dX11_load_53 : decode cX11_load 53 = .ok (.iload_n 3, 1) := by decide +kernel
theorem dX11_load_54 : decode cX11_load 54 = .ok (.invokevirtual 55, 3) := by decide +kernel
theorem dX11_load_57 : decode cX11_load 57 = .ok (.aload 4, 2) := by decide +kernel
theorem dX11_load_59 : decode cX11_load 59 = .ok (.getfield 133, 3) := by decide +kernel
theorem dX11_load_62 : decode cX11_load 62 = .ok (.ireturn, 1) := by decide +kernel
theorem dX11_setFan_0 : decode cX11_setFan 0 = .ok (.aload_n 0, 1) := by decide +kernel
theorem dX11_setFan_1 : decode cX11_setFan 1 = .ok (.iload_n 1, 1) := by decide +kernel
theorem dX11_setFan_2 : decode cX11_setFan 2 = .ok (.invokevirtual 124, 3) := by decide +kernel
theorem dX11_setFan_5 : decode cX11_setFan 5 = .ok (.astore_n 3, 1) := by decide +kernel
theorem dX11_setFan_6 : decode cX11_setFan 6 = .ok (.iload_n 2, 1) := by decide +kernel
theorem dX11_setFan_7 : decode cX11_setFan 7 = .ok (.iconst 0, 1) := by decide +kernel
theorem dX11_setFan_8 : decode cX11_setFan 8 = .ok (.iconst 5, 1) := by decide +kernel
theorem dX11_setFan_9 : decode cX11_setFan 9 = .ok (.invokestatic 96, 3) := by decide +kernel
theorem dX11_setFan_12 : decode cX11_setFan 12 = .ok (.aload_n 0, 1) := by decide +kernel
theorem dX11_setFan_13 : decode cX11_setFan 13 = .ok (.getfield 22, 3) := by decide +kernel
theorem dX11_setFan_16 : decode cX11_setFan 16 = .ok (.aload_n 0, 1) := by decide +kernel
theorem dX11_setFan_17 : decode cX11_setFan 17 = .ok (.getfield 12, 3) := by decide +kernel
theorem dX11_setFan_20 : decode cX11_setFan 20 = .ok (.invokevirtual 104, 3) := by decide +kernel
theorem dX11_setFan_23 : decode cX11_setFan 23 = .ok (.aload_n 3, 1) := by decide +kernel
theorem dX11_setFan_24 : decode cX11_setFan 24 = .ok (.getfield 59, 3) := by decide +kernel
theorem dX11_setFan_27 : decode cX11_setFan 27 = .ok (.istore 4, 2) := by decide +kernel
theorem dX11_setFan_29 : decode cX11_setFan 29 = .ok (.aload_n 3, 1) := by decide +kernel
theorem dX11_setFan_30 : decode cX11_setFan 30 = .ok (.iload_n 2, 1) := by decide +kernel
theorem dX11_setFan_31 : decode cX11_setFan 31 = .ok (.putfield 59, 3) := by decide +kernel
theorem dX11_setFan_34 : decode cX11_setFan 34 = .ok (.iload 4, 2) := by decide +kernel
theorem dX11_setFan_36 : decode cX11_setFan 36 = .ok (.ireturn, 1) := by decide +kernel
theorem dX11_reverse_0 : decode cX11_reverse 0 = .ok (.aload_n 0, 1) := by decide +kernel
theorem dX11_reverse_1 : decode cX11_reverse 1 = .ok (.iload_n 1, 1) := by decide +kernel
theorem dX11_reverse_2 : decode cX11_reverse 2 = .ok (.invokevirtual 124, 3) := by decide +kernel
theorem dX11_reverse_5 : decode cX11_reverse 5 = .ok (.astore_n 2, 1) := by decide +kernel
theorem dX11_reverse_6 : decode cX11_reverse 6 = .ok (.aload_n 0, 1) := by decide +kernel
theorem dX11_reverse_7 : decode cX11_reverse 7 = .ok (.getfield 22, 3) := by decide +kernel
theorem dX11_reverse_10 : decode cX11_reverse 10 = .ok (.aload_n 0, 1) := by decide +kernel
theorem dX11_reverse_11 : decode cX11_reverse 11 = .ok (.getfield 12, 3) := by decide +kernel
theorem dX11_reverse_14 : decode cX11_reverse 14 = .ok (.invokevirtual 104, 3) := by decide +kernel
theorem dX11_reverse_17 : decode cX11_reverse 17 = .ok (.aload_n 2, 1) := by decide +kernel
theorem dX11_reverse_18 : decode cX11_reverse 18 = .ok (.aload_n 2, 1) := by decide +kernel
theorem dX11_reverse_19 : decode cX11_reverse 19 = .ok (.getfield 80, 3) := by decide +kernel
theorem dX11_reverse_22 : decode cX11_reverse 22 = .ok (.ifCond .ne 7, 3) := by decide +kernel
theorem dX11_reverse_25 : decode cX11_reverse 25 = .ok (.iconst 1, 1) := by decide +kernel
theorem dX11_reverse_26 : decode cX11_reverse 26 = .ok (.goto 4, 3) := by decide +kernel
theorem dX11_reverse_29 : decode cX11_reverse 29 = .ok (.iconst 0, 1) := by decide +kernel
theorem dX11_reverse_30 : decode cX11_reverse 30 = .ok (.putfield 80, 3) := by decide +kernel
theorem dX11_reverse_33 : decode cX11_reverse 33 = .ok (.aload_n 2, 1) := by decide +kernel
theorem dX11_reverse_34 : decode cX11_reverse 34 = .ok (.getfield 80, 3) := by decide +kernel
theorem dX11_reverse_37 : decode cX11_reverse 37 = .ok (.ireturn, 1) := by decide +kernel
theorem dX11_setHeat_0 : decode cX11_setHeat 0 = .ok (.iload_n 1, 1) := by decide +kernel
theorem dX11_setHeat_1 : decode cX11_setHeat 1 = .ok (.iconst 0, 1) := by decide +kernel
theorem dX11_setHeat_2 : decode cX11_setHeat 2 = .ok (.iconst 5, 1) := by decide +kernel
theorem dX11_setHeat_3 : decode cX11_setHeat 3 = .ok (.invokestatic 96, 3) := by decide +kernel
theorem dX11_setHeat_6 : decode cX11_setHeat 6 = .ok (.aload_n 0, 1) := by decide +kernel
theorem dX11_setHeat_7 : decode cX11_setHeat 7 = .ok (.getfield 22, 3) := by decide +kernel
theorem dX11_setHeat_10 : decode cX11_setHeat 10 = .ok (.aload_n 0, 1) := by decide +kernel
theorem dX11_setHeat_11 : decode cX11_setHeat 11 = .ok (.getfield 12, 3) := by decide +kernel
theorem dX11_setHeat_14 : decode cX11_setHeat 14 = .ok (.invokevirtual 104, 3) := by decide +kernel
theorem dX11_setHeat_17 : decode cX11_setHeat 17 = .ok (.aload_n 0, 1) := by decide +kernel
theorem dX11_setHeat_18 : decode cX11_setHeat 18 = .ok (.getfield 12, 3) := by decide +kernel
theorem dX11_setHeat_21 : decode cX11_setHeat 21 = .ok (.getfield 63, 3) := by decide +kernel
theorem dX11_setHeat_24 : decode cX11_setHeat 24 = .ok (.getfield 136, 3) := by decide +kernel
theorem dX11_setHeat_27 : decode cX11_setHeat 27 = .ok (.istore_n 2, 1) := by decide +kernel
theorem dX11_setHeat_28 : decode cX11_setHeat 28 = .ok (.aload_n 0, 1) := by decide +kernel
theorem dX11_setHeat_29 : decode cX11_setHeat 29 = .ok (.getfield 12, 3) := by decide +kernel
theorem dX11_setHeat_32 : decode cX11_setHeat 32 = .ok (.getfield 63, 3) := by decide +kernel
theorem dX11_setHeat_35 : decode cX11_setHeat 35 = .ok (.iload_n 1, 1) := by decide +kernel
theorem dX11_setHeat_36 : decode cX11_setHeat 36 = .ok (.putfield 136, 3) := by decide +kernel
theorem dX11_setHeat_39 : decode cX11_setHeat 39 = .ok (.iload_n 2, 1) := by decide +kernel
theorem dX11_setHeat_40 : decode cX11_setHeat 40 = .ok (.ireturn, 1) := by decide +kernel
theorem dX11_setHumidity_0 : decode cX11_setHumidity 0 = .ok (.iload_n 1, 1) := by decide +kernel
theorem dX11_setHumidity_1 : decode cX11_setHumidity 1 = .ok (.bipush 20, 2) := by decide +kernel
theorem dX11_setHumidity_3 : decode cX11_setHumidity 3 = .ok (.bipush 95, 2) := by decide +kernel
theorem dX11_setHumidity_5 : decode cX11_setHumidity 5 = .ok (.invokestatic 96, 3) := by decide +kernel
theorem dX11_setHumidity_8 : decode cX11_setHumidity 8 = .ok (.aload_n 0, 1) := by decide +kernel
theorem dX11_setHumidity_9 : decode cX11_setHumidity 9 = .ok (.getfield 22, 3) := by decide +kernel
theorem dX11_setHumidity_12 : decode cX11_setHumidity 12 = .ok (.aload_n 0, 1) := by decide +kernel
theorem dX11_setHumidity_13 : decode cX11_setHumidity 13 = .ok (.getfield 12, 3) := by decide +kernel
theorem dX11_setHumidity_16 : decode cX11_setHumidity 16 = .ok (.invokevirtual 104, 3) := by decide +kernel
theorem dX11_setHumidity_19 : decode cX11_setHumidity 19 = .ok (.aload_n 0, 1) := by decide +kernel
theorem dX11_setHumidity_20 : decode cX11_setHumidity 20 = .ok (.getfield 12, 3) := by decide +kernel
theorem dX11_setHumidity_23 : decode cX11_setHumidity 23 = .ok (.getfield 63, 3) := by decide +kernel
theorem dX11_setHumidity_26 : decode cX11_setHumidity 26 = .ok (.getfield 139, 3) := by decide +kernel
theorem dX11_setHumidity_29 : decode cX11_setHumidity 29 = .ok (.istore_n 2, 1) := by decide +kernel
theorem dX11_setHumidity_30 : decode cX11_setHumidity 30 = .ok (.aload_n 0, 1) := by decide +kernel
theorem dX11_setHumidity_31 : decode cX11_setHumidity 31 = .ok (.getfield 12, 3) := by decide +kernel
theorem dX11_setHumidity_34 : decode cX11_setHumidity 34 = .ok (.getfield 63, 3) := by decide +kernel
theorem dX11_setHumidity_37 : decode cX11_setHumidity 37 = .ok (.iload_n 1, 1) := by decide +kernel
theorem dX11_setHumidity_38 : decode cX11_setHumidity 38 = .ok (.putfield 139, 3) := by decide +kernel
theorem dX11_setHumidity_41 : decode cX11_setHumidity 41 = .ok (.iload_n 2, 1) := by decide +kernel
theorem dX11_setHumidity_42 : decode cX11_setHumidity 42 = .ok (.ireturn, 1) := by decide +kernel
theorem dX11_announceMonsoon_0 : decode cX11_announceMonsoon 0 = .ok (.iload_n 1, 1) := by decide +kernel
theorem dX11_announceMonsoon_1 : decode cX11_announceMonsoon 1 = .ok (.aload_n 0, 1) := by decide +kernel
theorem dX11_announceMonsoon_2 : decode cX11_announceMonsoon 2 = .ok (.getfield 12, 3) := by decide +kernel
theorem dX11_announceMonsoon_5 : decode cX11_announceMonsoon 5 = .ok (.getfield 63, 3) := by decide +kernel
theorem dX11_announceMonsoon_8 : decode cX11_announceMonsoon 8 = .ok (.invokevirtual 142, 3) := by decide +kernel
theorem dX11_announceMonsoon_11 : decode cX11_announceMonsoon 11 = .ok (.bipush 83, 2) := by decide +kernel
theorem dX11_announceMonsoon_13 : decode cX11_announceMonsoon 13 = .ok (.invokestatic 96, 3) := by decide +kernel
theorem dX11_announceMonsoon_16 : decode cX11_announceMonsoon 16 = .ok (.aload_n 0, 1) := by decide +kernel
theorem dX11_announceMonsoon_17 : decode cX11_announceMonsoon 17 = .ok (.getfield 12, 3) := by decide +kernel
theorem dX11_announceMonsoon_20 : decode cX11_announceMonsoon 20 = .ok (.getfield 63, 3) := by decide +kernel
theorem dX11_announceMonsoon_23 : decode cX11_announceMonsoon 23 = .ok (.invokevirtual 146, 3) := by decide +kernel
theorem dX11_announceMonsoon_26 : decode cX11_announceMonsoon 26 = .ok (.ifCond .ne 7, 3) := by decide +kernel
theorem dX11_announceMonsoon_29 : decode cX11_announceMonsoon 29 = .ok (.iconst 1, 1) := by decide +kernel
theorem dX11_announceMonsoon_30 : decode cX11_announceMonsoon 30 = .ok (.goto 4, 3) := by decide +kernel
theorem dX11_announceMonsoon_33 : decode cX11_announceMonsoon 33 = .ok (.iconst 0, 1) := by decide +kernel
theorem dX11_announceMonsoon_34 : decode cX11_announceMonsoon 34 = .ok (.invokestatic 120, 3) := by decide +kernel
theorem dX11_announceMonsoon_37 : decode cX11_announceMonsoon 37 = .ok (.aload_n 0, 1) := by decide +kernel
theorem dX11_announceMonsoon_38 : decode cX11_announceMonsoon 38 = .ok (.getfield 22, 3) := by decide +kernel
theorem dX11_announceMonsoon_41 : decode cX11_announceMonsoon 41 = .ok (.aload_n 0, 1) := by decide +kernel
theorem dX11_announceMonsoon_42 : decode cX11_announceMonsoon 42 = .ok (.getfield 12, 3) := by decide +kernel
theorem dX11_announceMonsoon_45 : decode cX11_announceMonsoon 45 = .ok (.invokevirtual 104, 3) := by decide +kernel
theorem dX11_announceMonsoon_48 : decode cX11_announceMonsoon 48 = .ok (.aload_n 0, 1) := by decide +kernel
theorem dX11_announceMonsoon_49 : decode cX11_announceMonsoon 49 = .ok (.getfield 12, 3) := by decide +kernel
theorem dX11_announceMonsoon_52 : decode cX11_announceMonsoon 52 = .ok (.getfield 63, 3) := by decide +kernel
theorem dX11_announceMonsoon_55 : decode cX11_announceMonsoon 55 = .ok (.iload_n 1, 1) := by decide +kernel
theorem dX11_announceMonsoon_56 : decode cX11_announceMonsoon 56 = .ok (.invokevirtual 67, 3) := by decide +kernel
theorem dX11_announceMonsoon_59 : decode cX11_announceMonsoon 59 = .ok (.aload_n 0, 1) := by decide +kernel
theorem dX11_announceMonsoon_60 : decode cX11_announceMonsoon 60 = .ok (.getfield 12, 3) := by decide +kernel
theorem dX11_announceMonsoon_63 : decode cX11_announceMonsoon 63 = .ok (.getfield 63, 3) := by decide +kernel
theorem dX11_announceMonsoon_66 : decode cX11_announceMonsoon 66 = .ok (.getfield 149, 3) := by decide +kernel
theorem dX11_announceMonsoon_69 : decode cX11_announceMonsoon 69 = .ok (.ireturn, 1) := by decide +kernel
theorem dX11_setTarget_0 : decode cX11_setTarget 0 = .ok (.iload_n 1, 1) := by decide +kernel
theorem dX11_setTarget_1 : decode cX11_setTarget 1 = .ok (.sipush 500, 3) := by decide +kernel
theorem dX11_setTarget_4 : decode cX11_setTarget 4 = .ok (.sipush 700, 3) := by decide +kernel
theorem dX11_setTarget_7 : decode cX11_setTarget 7 = .ok (.invokestatic 96, 3) := by decide +kernel
theorem dX11_setTarget_10 : decode cX11_setTarget 10 = .ok (.iload_n 2, 1) := by decide +kernel
theorem dX11_setTarget_11 : decode cX11_setTarget 11 = .ok (.iconst 5, 1) := by decide +kernel
theorem dX11_setTarget_12 : decode cX11_setTarget 12 = .ok (.bipush 50, 2) := by decide +kernel
theorem dX11_setTarget_14 : decode cX11_setTarget 14 = .ok (.invokestatic 96, 3) := by decide +kernel
theorem dX11_setTarget_17 : decode cX11_setTarget 17 = .ok (.aload_n 0, 1) := by decide +kernel
theorem dX11_setTarget_18 : decode cX11_setTarget 18 = .ok (.getfield 22, 3) := by decide +kernel
theorem dX11_setTarget_21 : decode cX11_setTarget 21 = .ok (.aload_n 0, 1) := by decide +kernel
theorem dX11_setTarget_22 : decode cX11_setTarget 22 = .ok (.getfield 12, 3) := by decide +kernel
theorem dX11_setTarget_25 : decode cX11_setTarget 25 = .ok (.invokevirtual 104, 3) := by decide +kernel
theorem dX11_setTarget_28 : decode cX11_setTarget 28 = .ok (.aload_n 0, 1) := by decide +kernel
theorem dX11_setTarget_29 : decode cX11_setTarget 29 = .ok (.getfield 12, 3) := by decide +kernel
theorem dX11_setTarget_32 : decode cX11_setTarget 32 = .ok (.iload_n 1, 1) := by decide +kernel
theorem dX11_setTarget_33 : decode cX11_setTarget 33 = .ok (.iload_n 2, 1) := by decide +kernel
theorem dX11_setTarget_34 : decode cX11_setTarget 34 = .ok (.invokevirtual 152, 3) := by decide +kernel
theorem dX11_setTarget_37 : decode cX11_setTarget 37 = .ok (.aload_n 0, 1) := by decide +kernel
theorem dX11_setTarget_38 : decode cX11_setTarget 38 = .ok (.getfield 12, 3) := by decide +kernel
theorem dX11_setTarget_41 : decode cX11_setTarget 41 = .ok (.invokevirtual 156, 3) := by decide +kernel
theorem dX11_setTarget_44 : decode cX11_setTarget 44 = .ok (.invokestatic 159, 3) := by decide +kernel
theorem dX11_setTarget_47 : decode cX11_setTarget 47 = .ok (.ireturn, 1) := by decide +kernel
theorem dX11_turnLeaf_0 : decode cX11_turnLeaf 0 = .ok (.aload_n 0, 1) := by decide +kernel
theorem dX11_turnLeaf_1 : decode cX11_turnLeaf 1 = .ok (.iload_n 1, 1) := by decide +kernel
theorem dX11_turnLeaf_2 : decode cX11_turnLeaf 2 = .ok (.invokevirtual 124, 3) := by decide +kernel
theorem dX11_turnLeaf_5 : decode cX11_turnLeaf 5 = .ok (.astore_n 2, 1) := by decide +kernel
theorem dX11_turnLeaf_6 : decode cX11_turnLeaf 6 = .ok (.aload_n 2, 1) := by decide +kernel
theorem dX11_turnLeaf_7 : decode cX11_turnLeaf 7 = .ok (.invokevirtual 130, 3) := by decide +kernel
theorem dX11_turnLeaf_10 : decode cX11_turnLeaf 10 = .ok (.ifCond .ne 7, 3) := by decide +kernel
theorem dX11_turnLeaf_13 : decode cX11_turnLeaf 13 = .ok (.iconst 1, 1) := by decide +kernel
theorem dX11_turnLeaf_14 : decode cX11_turnLeaf 14 = .ok (.goto 4, 3) := by decide +kernel
theorem dX11_turnLeaf_17 : decode cX11_turnLeaf 17 = .ok (.iconst 0, 1) := by decide +kernel
theorem dX11_turnLeaf_18 : decode cX11_turnLeaf 18 = .ok (.invokestatic 120, 3) := by decide +kernel
theorem dX11_turnLeaf_21 : decode cX11_turnLeaf 21 = .ok (.aload_n 0, 1) := by decide +kernel
theorem dX11_turnLeaf_22 : decode cX11_turnLeaf 22 = .ok (.getfield 22, 3) := by decide +kernel
theorem dX11_turnLeaf_25 : decode cX11_turnLeaf 25 = .ok (.aload_n 0, 1) := by decide +kernel
theorem dX11_turnLeaf_26 : decode cX11_turnLeaf 26 = .ok (.getfield 12, 3) := by decide +kernel
theorem dX11_turnLeaf_29 : decode cX11_turnLeaf 29 = .ok (.invokevirtual 104, 3) := by decide +kernel
theorem dX11_turnLeaf_32 : decode cX11_turnLeaf 32 = .ok (.aload_n 2, 1) := by decide +kernel
theorem dX11_turnLeaf_33 : decode cX11_turnLeaf 33 = .ok (.invokevirtual 164, 3) := by decide +kernel
theorem dX11_turnLeaf_36 : decode cX11_turnLeaf 36 = .ok (.aload_n 2, 1) := by decide +kernel
theorem dX11_turnLeaf_37 : decode cX11_turnLeaf 37 = .ok (.getfield 167, 3) := by decide +kernel
theorem dX11_turnLeaf_40 : decode cX11_turnLeaf 40 = .ok (.ireturn, 1) := by decide +kernel
theorem dX11_discharge_0 : decode cX11_discharge 0 = .ok (.aload_n 0, 1) := by decide +kernel
theorem dX11_discharge_1 : decode cX11_discharge 1 = .ok (.iload_n 1, 1) := by decide +kernel
theorem dX11_discharge_2 : decode cX11_discharge 2 = .ok (.invokevirtual 124, 3) := by decide +kernel
theorem dX11_discharge_5 : decode cX11_discharge 5 = .ok (.astore_n 2, 1) := by decide +kernel
theorem dX11_discharge_6 : decode cX11_discharge 6 = .ok (.aload_n 0, 1) := by decide +kernel
theorem dX11_discharge_7 : decode cX11_discharge 7 = .ok (.getfield 12, 3) := by decide +kernel
theorem dX11_discharge_10 : decode cX11_discharge 10 = .ok (.aload_n 2, 1) := by decide +kernel
theorem dX11_discharge_11 : decode cX11_discharge 11 = .ok (.invokevirtual 170, 3) := by decide +kernel
theorem dX11_discharge_14 : decode cX11_discharge 14 = .ok (.ifCond .eq 7, 3) := by decide +kernel
theorem dX11_discharge_17 : decode cX11_discharge 17 = .ok (.iconst 1, 1) := by decide +kernel
theorem dX11_discharge_18 : decode cX11_discharge 18 = .ok (.goto 4, 3) := by decide +kernel
theorem dX11_discharge_21 : decode cX11_discharge 21 = .ok (.iconst 0, 1) := by decide +kernel
theorem dX11_discharge_22 : decode cX11_discharge 22 = .ok (.invokestatic 120, 3) := by decide +kernel
theorem dX11_discharge_25 : decode cX11_discharge 25 = .ok (.aload_n 0, 1) := by decide +kernel
theorem dX11_discharge_26 : decode cX11_discharge 26 = .ok (.getfield 22, 3) := by decide +kernel
theorem dX11_discharge_29 : decode cX11_discharge 29 = .ok (.aload_n 0, 1) := by decide +kernel
theorem dX11_discharge_30 : decode cX11_discharge 30 = .ok (.getfield 12, 3) := by decide +kernel
theorem dX11_discharge_33 : decode cX11_discharge 33 = .ok (.invokevirtual 104, 3) := by decide +kernel
theorem dX11_discharge_36 : decode cX11_discharge 36 = .ok (.aload_n 0, 1) := by decide +kernel
theorem dX11_discharge_37 : decode cX11_discharge 37 = .ok (.getfield 12, 3) := by decide +kernel
theorem dX11_discharge_40 : decode cX11_discharge 40 = .ok (.aload_n 2, 1) := by decide +kernel
theorem dX11_discharge_41 : decode cX11_discharge 41 = .ok (.invokevirtual 174, 3) := by decide +kernel
theorem dX11_discharge_44 : decode cX11_discharge 44 = .ok (.ireturn, 1) := by decide +kernel
theorem dX11_discard_0 : decode cX11_discard 0 = .ok (.aload_n 0, 1) := by decide +kernel
theorem dX11_discard_1 : decode cX11_discard 1 = .ok (.iload_n 1, 1) := by decide +kernel
theorem dX11_discard_2 : decode cX11_discard 2 = .ok (.invokevirtual 124, 3) := by decide +kernel
theorem dX11_discard_5 : decode cX11_discard 5 = .ok (.astore_n 2, 1) := by decide +kernel
theorem dX11_discard_6 : decode cX11_discard 6 = .ok (.aload_n 2, 1) := by decide +kernel
theorem dX11_discard_7 : decode cX11_discard 7 = .ok (.invokevirtual 130, 3) := by decide +kernel
theorem dX11_discard_10 : decode cX11_discard 10 = .ok (.ifCond .ne 7, 3) := by decide +kernel
theorem dX11_discard_13 : decode cX11_discard 13 = .ok (.iconst 1, 1) := by decide +kernel
theorem dX11_discard_14 : decode cX11_discard 14 = .ok (.goto 4, 3) := by decide +kernel
theorem dX11_discard_17 : decode cX11_discard 17 = .ok (.iconst 0, 1) := by decide +kernel
theorem dX11_discard_18 : decode cX11_discard 18 = .ok (.invokestatic 120, 3) := by decide +kernel
theorem dX11_discard_21 : decode cX11_discard 21 = .ok (.aload_n 0, 1) := by decide +kernel
theorem dX11_discard_22 : decode cX11_discard 22 = .ok (.getfield 22, 3) := by decide +kernel
theorem dX11_discard_25 : decode cX11_discard 25 = .ok (.aload_n 0, 1) := by decide +kernel
theorem dX11_discard_26 : decode cX11_discard 26 = .ok (.getfield 12, 3) := by decide +kernel
theorem dX11_discard_29 : decode cX11_discard 29 = .ok (.invokevirtual 104, 3) := by decide +kernel
theorem dX11_discard_32 : decode cX11_discard 32 = .ok (.aload_n 0, 1) := by decide +kernel
theorem dX11_discard_33 : decode cX11_discard 33 = .ok (.getfield 12, 3) := by decide +kernel
theorem dX11_discard_36 : decode cX11_discard 36 = .ok (.aload_n 2, 1) := by decide +kernel
theorem dX11_discard_37 : decode cX11_discard 37 = .ok (.invokevirtual 177, 3) := by decide +kernel
theorem dX11_discard_40 : decode cX11_discard 40 = .ok (.ireturn, 1) := by decide +kernel
theorem dX11_addProbe_0 : decode cX11_addProbe 0 = .ok (.aload_n 0, 1) := by decide +kernel
theorem dX11_addProbe_1 : decode cX11_addProbe 1 = .ok (.iload_n 1, 1) := by decide +kernel
theorem dX11_addProbe_2 : decode cX11_addProbe 2 = .ok (.invokevirtual 124, 3) := by decide +kernel
theorem dX11_addProbe_5 : decode cX11_addProbe 5 = .ok (.pop, 1) := by decide +kernel
theorem dX11_addProbe_6 : decode cX11_addProbe 6 = .ok (.iload_n 2, 1) := by decide +kernel
theorem dX11_addProbe_7 : decode cX11_addProbe 7 = .ok (.iconst 0, 1) := by decide +kernel
theorem dX11_addProbe_8 : decode cX11_addProbe 8 = .ok (.iconst 1, 1) := by decide +kernel
theorem dX11_addProbe_9 : decode cX11_addProbe 9 = .ok (.invokestatic 96, 3) := by decide +kernel
theorem dX11_addProbe_12 : decode cX11_addProbe 12 = .ok (.iload_n 3, 1) := by decide +kernel
theorem dX11_addProbe_13 : decode cX11_addProbe 13 = .ok (.bipush (-50), 2) := by decide +kernel
theorem dX11_addProbe_15 : decode cX11_addProbe 15 = .ok (.bipush 50, 2) := by decide +kernel
theorem dX11_addProbe_17 : decode cX11_addProbe 17 = .ok (.invokestatic 96, 3) := by decide +kernel
theorem dX11_addProbe_20 : decode cX11_addProbe 20 = .ok (.aload_n 0, 1) := by decide +kernel
theorem dX11_addProbe_21 : decode cX11_addProbe 21 = .ok (.getfield 12, 3) := by decide +kernel
theorem dX11_addProbe_24 : decode cX11_addProbe 24 = .ok (.invokevirtual 180, 3) := by decide +kernel
theorem dX11_addProbe_27 : decode cX11_addProbe 27 = .ok (.ifCond .ne 7, 3) := by decide +kernel
theorem dX11_addProbe_30 : decode cX11_addProbe 30 = .ok (.iconst 1, 1) := by decide +kernel
theorem dX11_addProbe_31 : decode cX11_addProbe 31 = .ok (.goto 4, 3) := by decide +kernel
theorem dX11_addProbe_34 : decode cX11_addProbe 34 = .ok (.iconst 0, 1) := by decide +kernel
theorem dX11_addProbe_35 : decode cX11_addProbe 35 = .ok (.invokestatic 120, 3) := by decide +kernel
theorem dX11_addProbe_38 : decode cX11_addProbe 38 = .ok (.aload_n 0, 1) := by decide +kernel
theorem dX11_addProbe_39 : decode cX11_addProbe 39 = .ok (.getfield 22, 3) := by decide +kernel
theorem dX11_addProbe_42 : decode cX11_addProbe 42 = .ok (.aload_n 0, 1) := by decide +kernel
theorem dX11_addProbe_43 : decode cX11_addProbe 43 = .ok (.getfield 12, 3) := by decide +kernel
theorem dX11_addProbe_46 : decode cX11_addProbe 46 = .ok (.invokevirtual 104, 3) := by decide +kernel
theorem dX11_addProbe_49 : decode cX11_addProbe 49 = .ok (.aload_n 0, 1) := by decide +kernel
theorem dX11_addProbe_50 : decode cX11_addProbe 50 = .ok (.getfield 12, 3) := by decide +kernel
theorem dX11_addProbe_53 : decode cX11_addProbe 53 = .ok (.iload_n 1, 1) := by decide +kernel
theorem dX11_addProbe_54 : decode cX11_addProbe 54 = .ok (.iload_n 2, 1) := by decide +kernel
theorem dX11_addProbe_55 : decode cX11_addProbe 55 = .ok (.iload_n 3, 1) := by decide +kernel
theorem dX11_addProbe_56 : decode cX11_addProbe 56 = .ok (.invokevirtual 73, 3) := by decide +kernel
theorem dX11_addProbe_59 : decode cX11_addProbe 59 = .ok (.ireturn, 1) := by decide +kernel
theorem dX11_moveProbe_0 : decode cX11_moveProbe 0 = .ok (.aload_n 0, 1) := by decide +kernel
theorem dX11_moveProbe_1 : decode cX11_moveProbe 1 = .ok (.iload_n 1, 1) := by decide +kernel
theorem dX11_moveProbe_2 : decode cX11_moveProbe 2 = .ok (.invokevirtual 183, 3) := by decide +kernel
theorem dX11_moveProbe_5 : decode cX11_moveProbe 5 = .ok (.astore 4, 2) := by decide +kernel
theorem dX11_moveProbe_7 : decode cX11_moveProbe 7 = .ok (.aload_n 0, 1) := by decide +kernel
theorem dX11_moveProbe_8 : decode cX11_moveProbe 8 = .ok (.iload_n 2, 1) := by decide +kernel
theorem dX11_moveProbe_9 : decode cX11_moveProbe 9 = .ok (.invokevirtual 124, 3) := by decide +kernel
theorem dX11_moveProbe_12 : decode cX11_moveProbe 12 = .ok (.pop, 1) := by decide +kernel
theorem dX11_moveProbe_13 : decode cX11_moveProbe 13 = .ok (.iload_n 3, 1) := by decide +kernel
theorem dX11_moveProbe_14 : decode cX11_moveProbe 14 = .ok (.iconst 0, 1) := by decide +kernel
theorem dX11_moveProbe_15 : decode cX11_moveProbe 15 = .ok (.iconst 1, 1) := by decide +kernel
theorem dX11_moveProbe_16 : decode cX11_moveProbe 16 = .ok (.invokestatic 96, 3) := by decide +kernel
theorem dX11_moveProbe_19 : decode cX11_moveProbe 19 = .ok (.aload_n 0, 1) := by decide +kernel
theorem dX11_moveProbe_20 : decode cX11_moveProbe 20 = .ok (.getfield 22, 3) := by decide +kernel
theorem dX11_moveProbe_23 : decode cX11_moveProbe 23 = .ok (.aload_n 0, 1) := by decide +kernel
theorem dX11_moveProbe_24 : decode cX11_moveProbe 24 = .ok (.getfield 12, 3) := by decide +kernel
theorem dX11_moveProbe_27 : decode cX11_moveProbe 27 = .ok (.invokevirtual 104, 3) := by decide +kernel
theorem dX11_moveProbe_30 : decode cX11_moveProbe 30 = .ok (.aload 4, 2) := by decide +kernel
theorem dX11_moveProbe_32 : decode cX11_moveProbe 32 = .ok (.getfield 187, 3) := by decide +kernel
theorem dX11_moveProbe_35 : decode cX11_moveProbe 35 = .ok (.istore 5, 2) := by decide +kernel
theorem dX11_moveProbe_37 : decode cX11_moveProbe 37 = .ok (.aload 4, 2) := by decide +kernel
theorem dX11_moveProbe_39 : decode cX11_moveProbe 39 = .ok (.iload_n 2, 1) := by decide +kernel
theorem dX11_moveProbe_40 : decode cX11_moveProbe 40 = .ok (.putfield 187, 3) := by decide +kernel
theorem dX11_moveProbe_43 : decode cX11_moveProbe 43 = .ok (.aload 4, 2) := by decide +kernel
theorem dX11_moveProbe_45 : decode cX11_moveProbe 45 = .ok (.iload_n 3, 1) := by decide +kernel
theorem dX11_moveProbe_46 : decode cX11_moveProbe 46 = .ok (.putfield 192, 3) := by decide +kernel
theorem dX11_moveProbe_49 : decode cX11_moveProbe 49 = .ok (.iload 5, 2) := by decide +kernel
theorem dX11_moveProbe_51 : decode cX11_moveProbe 51 = .ok (.ireturn, 1) := by decide +kernel
theorem dX11_calibrate_0 : decode cX11_calibrate 0 = .ok (.aload_n 0, 1) := by decide +kernel
theorem dX11_calibrate_1 : decode cX11_calibrate 1 = .ok (.iload_n 1, 1) := by decide +kernel
theorem dX11_calibrate_2 : decode cX11_calibrate 2 = .ok (.invokevirtual 183, 3) := by decide +kernel
theorem dX11_calibrate_5 : decode cX11_calibrate 5 = .ok (.astore_n 2, 1) := by decide +kernel
theorem dX11_calibrate_6 : decode cX11_calibrate 6 = .ok (.aload_n 0, 1) := by decide +kernel
theorem dX11_calibrate_7 : decode cX11_calibrate 7 = .ok (.getfield 22, 3) := by decide +kernel
theorem dX11_calibrate_10 : decode cX11_calibrate 10 = .ok (.aload_n 0, 1) := by decide +kernel
theorem dX11_calibrate_11 : decode cX11_calibrate 11 = .ok (.getfield 12, 3) := by decide +kernel
theorem dX11_calibrate_14 : decode cX11_calibrate 14 = .ok (.invokevirtual 104, 3) := by decide +kernel
theorem dX11_calibrate_17 : decode cX11_calibrate 17 = .ok (.aload_n 2, 1) := by decide +kernel
theorem dX11_calibrate_18 : decode cX11_calibrate 18 = .ok (.getfield 195, 3) := by decide +kernel
theorem dX11_calibrate_21 : decode cX11_calibrate 21 = .ok (.istore_n 3, 1) := by decide +kernel
theorem dX11_calibrate_22 : decode cX11_calibrate 22 = .ok (.aload_n 2, 1) := by decide +kernel
theorem dX11_calibrate_23 : decode cX11_calibrate 23 = .ok (.iconst 0, 1) := by decide +kernel
theorem dX11_calibrate_24 : decode cX11_calibrate 24 = .ok (.putfield 195, 3) := by decide +kernel
theorem dX11_calibrate_27 : decode cX11_calibrate 27 = .ok (.iload_n 3, 1) := by decide +kernel
theorem dX11_calibrate_28 : decode cX11_calibrate 28 = .ok (.ireturn, 1) := by decide +kernel
theorem dX11_passHours_0 : decode cX11_passHours 0 = .ok (.iload_n 1, 1) := by decide +kernel
theorem dX11_passHours_1 : decode cX11_passHours 1 = .ok (.iconst 1, 1) := by decide +kernel
theorem dX11_passHours_2 : decode cX11_passHours 2 = .ok (.sipush 200, 3) := by decide +kernel
theorem dX11_passHours_5 : decode cX11_passHours 5 = .ok (.invokestatic 96, 3) := by decide +kernel
theorem dX11_passHours_8 : decode cX11_passHours 8 = .ok (.aload_n 0, 1) := by decide +kernel
theorem dX11_passHours_9 : decode cX11_passHours 9 = .ok (.getfield 12, 3) := by decide +kernel
theorem dX11_passHours_12 : decode cX11_passHours 12 = .ok (.getfield 63, 3) := by decide +kernel
theorem dX11_passHours_15 : decode cX11_passHours 15 = .ok (.iload_n 1, 1) := by decide +kernel
theorem dX11_passHours_16 : decode cX11_passHours 16 = .ok (.invokevirtual 198, 3) := by decide +kernel
theorem dX11_passHours_19 : decode cX11_passHours 19 = .ok (.ifCond .ne 7, 3) := by decide +kernel
theorem dX11_passHours_22 : decode cX11_passHours 22 = .ok (.iconst 1, 1) := by decide +kernel
theorem dX11_passHours_23 : decode cX11_passHours 23 = .ok (.goto 4, 3) := by decide +kernel
theorem dX11_passHours_26 : decode cX11_passHours 26 = .ok (.iconst 0, 1) := by decide +kernel
theorem dX11_passHours_27 : decode cX11_passHours 27 = .ok (.invokestatic 120, 3) := by decide +kernel
theorem dX11_passHours_30 : decode cX11_passHours 30 = .ok (.aload_n 0, 1) := by decide +kernel
theorem dX11_passHours_31 : decode cX11_passHours 31 = .ok (.getfield 22, 3) := by decide +kernel
theorem dX11_passHours_34 : decode cX11_passHours 34 = .ok (.aload_n 0, 1) := by decide +kernel
theorem dX11_passHours_35 : decode cX11_passHours 35 = .ok (.getfield 12, 3) := by decide +kernel
theorem dX11_passHours_38 : decode cX11_passHours 38 = .ok (.invokevirtual 104, 3) := by decide +kernel
theorem dX11_passHours_41 : decode cX11_passHours 41 = .ok (.aload_n 0, 1) := by decide +kernel
theorem dX11_passHours_42 : decode cX11_passHours 42 = .ok (.getfield 12, 3) := by decide +kernel
theorem dX11_passHours_45 : decode cX11_passHours 45 = .ok (.iload_n 1, 1) := by decide +kernel
theorem dX11_passHours_46 : decode cX11_passHours 46 = .ok (.invokevirtual 77, 3) := by decide +kernel
theorem dX11_passHours_49 : decode cX11_passHours 49 = .ok (.aload_n 0, 1) := by decide +kernel
theorem dX11_passHours_50 : decode cX11_passHours 50 = .ok (.getfield 12, 3) := by decide +kernel
theorem dX11_passHours_53 : decode cX11_passHours 53 = .ok (.getfield 63, 3) := by decide +kernel
theorem dX11_passHours_56 : decode cX11_passHours 56 = .ok (.getfield 202, 3) := by decide +kernel
theorem dX11_passHours_59 : decode cX11_passHours 59 = .ok (.ireturn, 1) := by decide +kernel
theorem dX11_undo_0 : decode cX11_undo 0 = .ok (.aload_n 0, 1) := by decide +kernel
theorem dX11_undo_1 : decode cX11_undo 1 = .ok (.getfield 22, 3) := by decide +kernel
theorem dX11_undo_4 : decode cX11_undo 4 = .ok (.getfield 205, 3) := by decide +kernel
theorem dX11_undo_7 : decode cX11_undo 7 = .ok (.ifCond .ne 5, 3) := by decide +kernel
theorem dX11_undo_10 : decode cX11_undo 10 = .ok (.iconst (-1), 1) := by decide +kernel
theorem dX11_undo_11 : decode cX11_undo 11 = .ok (.ireturn, 1) := by decide +kernel
theorem dX11_undo_12 : decode cX11_undo 12 = .ok (.aload_n 0, 1) := by decide +kernel
theorem dX11_undo_13 : decode cX11_undo 13 = .ok (.getfield 22, 3) := by decide +kernel
theorem dX11_undo_16 : decode cX11_undo 16 = .ok (.aload_n 0, 1) := by decide +kernel
theorem dX11_undo_17 : decode cX11_undo 17 = .ok (.getfield 12, 3) := by decide +kernel
theorem dX11_undo_20 : decode cX11_undo 20 = .ok (.invokevirtual 208, 3) := by decide +kernel
theorem dX11_undo_23 : decode cX11_undo 23 = .ok (.aload_n 0, 1) := by decide +kernel
theorem dX11_undo_24 : decode cX11_undo 24 = .ok (.getfield 22, 3) := by decide +kernel
theorem dX11_undo_27 : decode cX11_undo 27 = .ok (.getfield 205, 3) := by decide +kernel
theorem dX11_undo_30 : decode cX11_undo 30 = .ok (.ireturn, 1) := by decide +kernel
theorem dX11_undoCount_0 : decode cX11_undoCount 0 = .ok (.aload_n 0, 1) := by decide +kernel
theorem dX11_undoCount_1 : decode cX11_undoCount 1 = .ok (.getfield 22, 3) := by decide +kernel
theorem dX11_undoCount_4 : decode cX11_undoCount 4 = .ok (.getfield 205, 3) := by decide +kernel
theorem dX11_undoCount_7 : decode cX11_undoCount 7 = .ok (.ireturn, 1) := by decide +kernel
theorem dX11_saveSnapshot_0 : decode cX11_saveSnapshot 0 = .ok (.aload_n 0, 1) := by decide +kernel
theorem dX11_saveSnapshot_1 : decode cX11_saveSnapshot 1 = .ok (.getfield 16, 3) := by decide +kernel
theorem dX11_saveSnapshot_4 : decode cX11_saveSnapshot 4 = .ok (.aload_n 0, 1) := by decide +kernel
theorem dX11_saveSnapshot_5 : decode cX11_saveSnapshot 5 = .ok (.getfield 12, 3) := by decide +kernel
theorem dX11_saveSnapshot_8 : decode cX11_saveSnapshot 8 = .ok (.invokevirtual 111, 3) := by decide +kernel
theorem dX11_saveSnapshot_11 : decode cX11_saveSnapshot 11 = .ok (.aload_n 0, 1) := by decide +kernel
theorem dX11_saveSnapshot_12 : decode cX11_saveSnapshot 12 = .ok (.iconst 1, 1) := by decide +kernel
theorem dX11_saveSnapshot_13 : decode cX11_saveSnapshot 13 = .ok (.putfield 211, 3) := by decide +kernel
theorem dX11_saveSnapshot_16 : decode cX11_saveSnapshot 16 = .ok (.aload_n 0, 1) := by decide +kernel
theorem dX11_saveSnapshot_17 : decode cX11_saveSnapshot 17 = .ok (.getfield 12, 3) := by decide +kernel
theorem dX11_saveSnapshot_20 : decode cX11_saveSnapshot 20 = .ok (.getfield 63, 3) := by decide +kernel
theorem dX11_saveSnapshot_23 : decode cX11_saveSnapshot 23 = .ok (.getfield 202, 3) := by decide +kernel
theorem dX11_saveSnapshot_26 : decode cX11_saveSnapshot 26 = .ok (.ireturn, 1) := by decide +kernel
theorem dX11_restoreSnapshot_0 : decode cX11_restoreSnapshot 0 = .ok (.aload_n 0, 1) := by decide +kernel
theorem dX11_restoreSnapshot_1 : decode cX11_restoreSnapshot 1 = .ok (.getfield 211, 3) := by decide +kernel
theorem dX11_restoreSnapshot_4 : decode cX11_restoreSnapshot 4 = .ok (.ifCond .ne 13, 3) := by decide +kernel
theorem dX11_restoreSnapshot_7 : decode cX11_restoreSnapshot 7 = .ok (.new 214, 3) := by decide +kernel
theorem dX11_restoreSnapshot_10 : decode cX11_restoreSnapshot 10 = .ok (.dup, 1) := by decide +kernel
theorem dX11_restoreSnapshot_11 : decode cX11_restoreSnapshot 11 = .ok (.ldc 216, 2) := by decide +kernel
theorem dX11_restoreSnapshot_13 : decode cX11_restoreSnapshot 13 = .ok (.invokespecial 218, 3) := by decide +kernel
theorem dX11_restoreSnapshot_16 : decode cX11_restoreSnapshot 16 = .ok (.athrow, 1) := by decide +kernel
theorem dX11_restoreSnapshot_17 : decode cX11_restoreSnapshot 17 = .ok (.aload_n 0, 1) := by decide +kernel
theorem dX11_restoreSnapshot_18 : decode cX11_restoreSnapshot 18 = .ok (.getfield 12, 3) := by decide +kernel
theorem dX11_restoreSnapshot_21 : decode cX11_restoreSnapshot 21 = .ok (.aload_n 0, 1) := by decide +kernel
theorem dX11_restoreSnapshot_22 : decode cX11_restoreSnapshot 22 = .ok (.getfield 16, 3) := by decide +kernel
theorem dX11_restoreSnapshot_25 : decode cX11_restoreSnapshot 25 = .ok (.invokevirtual 111, 3) := by decide +kernel
theorem dX11_restoreSnapshot_28 : decode cX11_restoreSnapshot 28 = .ok (.aload_n 0, 1) := by decide +kernel
theorem dX11_restoreSnapshot_29 : decode cX11_restoreSnapshot 29 = .ok (.getfield 22, 3) := by decide +kernel
theorem dX11_restoreSnapshot_32 : decode cX11_restoreSnapshot 32 = .ok (.iconst 0, 1) := by decide +kernel
theorem dX11_restoreSnapshot_33 : decode cX11_restoreSnapshot 33 = .ok (.putfield 205, 3) := by decide +kernel
theorem dX11_restoreSnapshot_36 : decode cX11_restoreSnapshot 36 = .ok (.aload_n 0, 1) := by decide +kernel
theorem dX11_restoreSnapshot_37 : decode cX11_restoreSnapshot 37 = .ok (.getfield 12, 3) := by decide +kernel
theorem dX11_restoreSnapshot_40 : decode cX11_restoreSnapshot 40 = .ok (.getfield 63, 3) := by decide +kernel
theorem dX11_restoreSnapshot_43 : decode cX11_restoreSnapshot 43 = .ok (.getfield 202, 3) := by decide +kernel
theorem dX11_restoreSnapshot_46 : decode cX11_restoreSnapshot 46 = .ok (.ireturn, 1) := by decide +kernel
theorem dX11_hour_0 : decode cX11_hour 0 = .ok (.aload_n 0, 1) := by decide +kernel
theorem dX11_hour_1 : decode cX11_hour 1 = .ok (.getfield 12, 3) := by decide +kernel
theorem dX11_hour_4 : decode cX11_hour 4 = .ok (.getfield 63, 3) := by decide +kernel
theorem dX11_hour_7 : decode cX11_hour 7 = .ok (.getfield 202, 3) := by decide +kernel
theorem dX11_hour_10 : decode cX11_hour 10 = .ok (.ireturn, 1) := by decide +kernel
theorem dX11_day_0 : decode cX11_day 0 = .ok (.aload_n 0, 1) := by decide +kernel
theorem dX11_day_1 : decode cX11_day 1 = .ok (.getfield 12, 3) := by decide +kernel
theorem dX11_day_4 : decode cX11_day 4 = .ok (.getfield 63, 3) := by decide +kernel
theorem dX11_day_7 : decode cX11_day 7 = .ok (.invokevirtual 142, 3) := by decide +kernel
theorem dX11_day_10 : decode cX11_day 10 = .ok (.ireturn, 1) := by decide +kernel
theorem dX11_dryness_0 : decode cX11_dryness 0 = .ok (.aload_n 0, 1) := by decide +kernel
theorem dX11_dryness_1 : decode cX11_dryness 1 = .ok (.getfield 12, 3) := by decide +kernel
theorem dX11_dryness_4 : decode cX11_dryness 4 = .ok (.getfield 63, 3) := by decide +kernel
theorem dX11_dryness_7 : decode cX11_dryness 7 = .ok (.aload_n 0, 1) := by decide +kernel
theorem dX11_dryness_8 : decode cX11_dryness 8 = .ok (.getfield 12, 3) := by decide +kernel
theorem dX11_dryness_11 : decode cX11_dryness 11 = .ok (.getfield 63, 3) := by decide +kernel
theorem dX11_dryness_14 : decode cX11_dryness 14 = .ok (.getfield 202, 3) := by decide +kernel
theorem dX11_dryness_17 : decode cX11_dryness 17 = .ok (.invokevirtual 230, 3) := by decide +kernel
theorem dX11_dryness_20 : decode cX11_dryness 20 = .ok (.ireturn, 1) := by decide +kernel
theorem dX11_hoursToMonsoon_0 : decode cX11_hoursToMonsoon 0 = .ok (.aload_n 0, 1) := by decide +kernel
theorem dX11_hoursToMonsoon_1 : decode cX11_hoursToMonsoon 1 = .ok (.getfield 12, 3) := by decide +kernel
theorem dX11_hoursToMonsoon_4 : decode cX11_hoursToMonsoon 4 = .ok (.getfield 63, 3) := by decide +kernel
theorem dX11_hoursToMonsoon_7 : decode cX11_hoursToMonsoon 7 = .ok (.invokevirtual 233, 3) := by decide +kernel
theorem dX11_hoursToMonsoon_10 : decode cX11_hoursToMonsoon 10 = .ok (.ireturn, 1) := by decide +kernel
theorem dX11_troughCount_0 : decode cX11_troughCount 0 = .ok (.aload_n 0, 1) := by decide +kernel
theorem dX11_troughCount_1 : decode cX11_troughCount 1 = .ok (.getfield 12, 3) := by decide +kernel
theorem dX11_troughCount_4 : decode cX11_troughCount 4 = .ok (.getfield 114, 3) := by decide +kernel
theorem dX11_troughCount_7 : decode cX11_troughCount 7 = .ok (.ireturn, 1) := by decide +kernel
theorem dX11_probeCount_0 : decode cX11_probeCount 0 = .ok (.aload_n 0, 1) := by decide +kernel
theorem dX11_probeCount_1 : decode cX11_probeCount 1 = .ok (.getfield 12, 3) := by decide +kernel
theorem dX11_probeCount_4 : decode cX11_probeCount 4 = .ok (.getfield 239, 3) := by decide +kernel
theorem dX11_probeCount_7 : decode cX11_probeCount 7 = .ok (.ireturn, 1) := by decide +kernel
theorem dX11_capacity_0 : decode cX11_capacity 0 = .ok (.aload_n 0, 1) := by decide +kernel
theorem dX11_capacity_1 : decode cX11_capacity 1 = .ok (.iload_n 1, 1) := by decide +kernel
theorem dX11_capacity_2 : decode cX11_capacity 2 = .ok (.invokevirtual 124, 3) := by decide +kernel
theorem dX11_capacity_5 : decode cX11_capacity 5 = .ok (.getfield 127, 3) := by decide +kernel
theorem dX11_capacity_8 : decode cX11_capacity 8 = .ok (.ireturn, 1) := by decide +kernel
theorem dX11_kilograms_0 : decode cX11_kilograms 0 = .ok (.aload_n 0, 1) := by decide +kernel
theorem dX11_kilograms_1 : decode cX11_kilograms 1 = .ok (.iload_n 1, 1) := by decide +kernel
theorem dX11_kilograms_2 : decode cX11_kilograms 2 = .ok (.invokevirtual 124, 3) := by decide +kernel
theorem dX11_kilograms_5 : decode cX11_kilograms 5 = .ok (.getfield 242, 3) := by decide +kernel
theorem dX11_kilograms_8 : decode cX11_kilograms 8 = .ok (.ireturn, 1) := by decide +kernel
theorem dX11_fill_0 : decode cX11_fill 0 = .ok (.aload_n 0, 1) := by decide +kernel
theorem dX11_fill_1 : decode cX11_fill 1 = .ok (.iload_n 1, 1) := by decide +kernel
theorem dX11_fill_2 : decode cX11_fill 2 = .ok (.invokevirtual 124, 3) := by decide +kernel
theorem dX11_fill_5 : decode cX11_fill 5 = .ok (.getfield 133, 3) := by decide +kernel
theorem dX11_fill_8 : decode cX11_fill 8 = .ok (.ireturn, 1) := by decide +kernel
theorem dX11_speed_0 : decode cX11_speed 0 = .ok (.aload_n 0, 1) := by decide +kernel
theorem dX11_speed_1 : decode cX11_speed 1 = .ok (.iload_n 1, 1) := by decide +kernel
theorem dX11_speed_2 : decode cX11_speed 2 = .ok (.invokevirtual 124, 3) := by decide +kernel
theorem dX11_speed_5 : decode cX11_speed 5 = .ok (.getfield 59, 3) := by decide +kernel
theorem dX11_speed_8 : decode cX11_speed 8 = .ok (.ireturn, 1) := by decide +kernel
theorem dX11_isUpwards_0 : decode cX11_isUpwards 0 = .ok (.aload_n 0, 1) := by decide +kernel
theorem dX11_isUpwards_1 : decode cX11_isUpwards 1 = .ok (.iload_n 1, 1) := by decide +kernel
theorem dX11_isUpwards_2 : decode cX11_isUpwards 2 = .ok (.invokevirtual 124, 3) := by decide +kernel
theorem dX11_isUpwards_5 : decode cX11_isUpwards 5 = .ok (.getfield 80, 3) := by decide +kernel
theorem dX11_isUpwards_8 : decode cX11_isUpwards 8 = .ok (.ireturn, 1) := by decide +kernel
theorem dX11_moisture_0 : decode cX11_moisture 0 = .ok (.aload_n 0, 1) := by decide +kernel
theorem dX11_moisture_1 : decode cX11_moisture 1 = .ok (.iload_n 1, 1) := by decide +kernel
theorem dX11_moisture_2 : decode cX11_moisture 2 = .ok (.invokevirtual 124, 3) := by decide +kernel
theorem dX11_moisture_5 : decode cX11_moisture 5 = .ok (.astore_n 3, 1) := by decide +kernel
theorem dX11_moisture_6 : decode cX11_moisture 6 = .ok (.iload_n 2, 1) := by decide +kernel
theorem dX11_moisture_7 : decode cX11_moisture 7 = .ok (.iconst 0, 1) := by decide +kernel
theorem dX11_moisture_8 : decode cX11_moisture 8 = .ok (.iconst 1, 1) := by decide +kernel
theorem dX11_moisture_9 : decode cX11_moisture 9 = .ok (.invokestatic 96, 3) := by decide +kernel
theorem dX11_moisture_12 : decode cX11_moisture 12 = .ok (.aload_n 3, 1) := by decide +kernel
theorem dX11_moisture_13 : decode cX11_moisture 13 = .ok (.invokevirtual 130, 3) := by decide +kernel
theorem dX11_moisture_16 : decode cX11_moisture 16 = .ok (.ifCond .eq 11, 3) := by decide +kernel
theorem dX11_moisture_19 : decode cX11_moisture 19 = .ok (.aload_n 3, 1) := by decide +kernel
theorem dX11_moisture_20 : decode cX11_moisture 20 = .ok (.iload_n 2, 1) := by decide +kernel
theorem dX11_moisture_21 : decode cX11_moisture 21 = .ok (.invokevirtual 245, 3) := by decide +kernel
theorem dX11_moisture_24 : decode cX11_moisture 24 = .ok (.goto 4, 3) := by decide +kernel
theorem dX11_moisture_27 : decode cX11_moisture 27 = .ok (.iconst (-1), 1) := by decide +kernel
theorem dX11_moisture_28 : decode cX11_moisture 28 = .ok (.ireturn, 1) := by decide +kernel
theorem dX11_spread_0 : decode cX11_spread 0 = .ok (.aload_n 0, 1) := by decide +kernel
theorem dX11_spread_1 : decode cX11_spread 1 = .ok (.iload_n 1, 1) := by decide +kernel
theorem dX11_spread_2 : decode cX11_spread 2 = .ok (.invokevirtual 124, 3) := by decide +kernel
theorem dX11_spread_5 : decode cX11_spread 5 = .ok (.astore_n 2, 1) := by decide +kernel
theorem dX11_spread_6 : decode cX11_spread 6 = .ok (.aload_n 2, 1) := by decide +kernel
theorem dX11_spread_7 : decode cX11_spread 7 = .ok (.invokevirtual 130, 3) := by decide +kernel
theorem dX11_spread_10 : decode cX11_spread 10 = .ok (.ifCond .eq 10, 3) := by decide +kernel
theorem dX11_spread_13 : decode cX11_spread 13 = .ok (.aload_n 2, 1) := by decide +kernel
theorem dX11_spread_14 : decode cX11_spread 14 = .ok (.invokevirtual 248, 3) := by decide +kernel
theorem dX11_spread_17 : decode cX11_spread 17 = .ok (.goto 4, 3) := by decide +kernel
theorem dX11_spread_20 : decode cX11_spread 20 = .ok (.iconst (-1), 1) := by decide +kernel
theorem dX11_spread_21 : decode cX11_spread 21 = .ok (.ireturn, 1) := by decide +kernel
theorem dX11_warmth_0 : decode cX11_warmth 0 = .ok (.aload_n 0, 1) := by decide +kernel
theorem dX11_warmth_1 : decode cX11_warmth 1 = .ok (.iload_n 1, 1) := by decide +kernel
theorem dX11_warmth_2 : decode cX11_warmth 2 = .ok (.invokevirtual 124, 3) := by decide +kernel
theorem dX11_warmth_5 : decode cX11_warmth 5 = .ok (.astore_n 2, 1) := by decide +kernel
theorem dX11_warmth_6 : decode cX11_warmth 6 = .ok (.aload_n 2, 1) := by decide +kernel
theorem dX11_warmth_7 : decode cX11_warmth 7 = .ok (.invokevirtual 130, 3) := by decide +kernel
theorem dX11_warmth_10 : decode cX11_warmth 10 = .ok (.ifCond .eq 10, 3) := by decide +kernel
theorem dX11_warmth_13 : decode cX11_warmth 13 = .ok (.aload_n 2, 1) := by decide +kernel
theorem dX11_warmth_14 : decode cX11_warmth 14 = .ok (.getfield 251, 3) := by decide +kernel
theorem dX11_warmth_17 : decode cX11_warmth 17 = .ok (.goto 4, 3) := by decide +kernel
theorem dX11_warmth_20 : decode cX11_warmth 20 = .ok (.iconst (-1), 1) := by decide +kernel
theorem dX11_warmth_21 : decode cX11_warmth 21 = .ok (.ireturn, 1) := by decide +kernel
theorem dX11_damage_0 : decode cX11_damage 0 = .ok (.aload_n 0, 1) := by decide +kernel
theorem dX11_damage_1 : decode cX11_damage 1 = .ok (.iload_n 1, 1) := by decide +kernel
theorem dX11_damage_2 : decode cX11_damage 2 = .ok (.invokevirtual 124, 3) := by decide +kernel
theorem dX11_damage_5 : decode cX11_damage 5 = .ok (.astore_n 2, 1) := by decide +kernel
theorem dX11_damage_6 : decode cX11_damage 6 = .ok (.aload_n 2, 1) := by decide +kernel
theorem dX11_damage_7 : decode cX11_damage 7 = .ok (.invokevirtual 130, 3) := by decide +kernel
theorem dX11_damage_10 : decode cX11_damage 10 = .ok (.ifCond .eq 10, 3) := by decide +kernel
theorem dX11_damage_13 : decode cX11_damage 13 = .ok (.aload_n 2, 1) := by decide +kernel
theorem dX11_damage_14 : decode cX11_damage 14 = .ok (.getfield 254, 3) := by decide +kernel
theorem dX11_damage_17 : decode cX11_damage 17 = .ok (.goto 4, 3) := by decide +kernel
theorem dX11_damage_20 : decode cX11_damage 20 = .ok (.iconst (-1), 1) := by decide +kernel
theorem dX11_damage_21 : decode cX11_damage 21 = .ok (.ireturn, 1) := by decide +kernel
theorem dX11_marks_0 : decode cX11_marks 0 = .ok (.aload_n 0, 1) := by decide +kernel
theorem dX11_marks_1 : decode cX11_marks 1 = .ok (.iload_n 1, 1) := by decide +kernel
theorem dX11_marks_2 : decode cX11_marks 2 = .ok (.invokevirtual 124, 3) := by decide +kernel
theorem dX11_marks_5 : decode cX11_marks 5 = .ok (.astore_n 2, 1) := by decide +kernel
theorem dX11_marks_6 : decode cX11_marks 6 = .ok (.aload_n 2, 1) := by decide +kernel
theorem dX11_marks_7 : decode cX11_marks 7 = .ok (.invokevirtual 130, 3) := by decide +kernel
theorem dX11_marks_10 : decode cX11_marks 10 = .ok (.ifCond .eq 10, 3) := by decide +kernel
theorem dX11_marks_13 : decode cX11_marks 13 = .ok (.aload_n 2, 1) := by decide +kernel
theorem dX11_marks_14 : decode cX11_marks 14 = .ok (.invokevirtual 257, 3) := by decide +kernel
theorem dX11_marks_17 : decode cX11_marks 17 = .ok (.goto 4, 3) := by decide +kernel
theorem dX11_marks_20 : decode cX11_marks 20 = .ok (.iconst (-1), 1) := by decide +kernel
theorem dX11_marks_21 : decode cX11_marks 21 = .ok (.ireturn, 1) := by decide +kernel
theorem dX11_whyNoDischarge_0 : decode cX11_whyNoDischarge 0 = .ok (.aload_n 0, 1) := by decide +kernel
theorem dX11_whyNoDischarge_1 : decode cX11_whyNoDischarge 1 = .ok (.getfield 12, 3) := by decide +kernel
theorem dX11_whyNoDischarge_4 : decode cX11_whyNoDischarge 4 = .ok (.aload_n 0, 1) := by decide +kernel
theorem dX11_whyNoDischarge_5 : decode cX11_whyNoDischarge 5 = .ok (.iload_n 1, 1) := by decide +kernel
theorem dX11_whyNoDischarge_6 : decode cX11_whyNoDischarge 6 = .ok (.invokevirtual 124, 3) := by decide +kernel
theorem dX11_whyNoDischarge_9 : decode cX11_whyNoDischarge 9 = .ok (.invokevirtual 170, 3) := by decide +kernel
theorem dX11_whyNoDischarge_12 : decode cX11_whyNoDischarge 12 = .ok (.ireturn, 1) := by decide +kernel
theorem dX11_readyTroughs_0 : decode cX11_readyTroughs 0 = .ok (.aload_n 0, 1) := by decide +kernel
theorem dX11_readyTroughs_1 : decode cX11_readyTroughs 1 = .ok (.getfield 12, 3) := by decide +kernel
theorem dX11_readyTroughs_4 : decode cX11_readyTroughs 4 = .ok (.invokevirtual 156, 3) := by decide +kernel
theorem dX11_readyTroughs_7 : decode cX11_readyTroughs 7 = .ok (.ireturn, 1) := by decide +kernel
theorem dX11_weight_0 : decode cX11_weight 0 = .ok (.aload_n 0, 1) := by decide +kernel
theorem dX11_weight_1 : decode cX11_weight 1 = .ok (.iload_n 1, 1) := by decide +kernel
theorem dX11_weight_2 : decode cX11_weight 2 = .ok (.invokevirtual 124, 3) := by decide +kernel
theorem dX11_weight_5 : decode cX11_weight 5 = .ok (.getfield 263, 3) := by decide +kernel
theorem dX11_weight_8 : decode cX11_weight 8 = .ok (.ireturn, 1) := by decide +kernel
theorem dX11_reading_0 : decode cX11_reading 0 = .ok (.aload_n 0, 1) := by decide +kernel
theorem dX11_reading_1 : decode cX11_reading 1 = .ok (.getfield 12, 3) := by decide +kernel
theorem dX11_reading_4 : decode cX11_reading 4 = .ok (.aload_n 0, 1) := by decide +kernel
theorem dX11_reading_5 : decode cX11_reading 5 = .ok (.iload_n 1, 1) := by decide +kernel
theorem dX11_reading_6 : decode cX11_reading 6 = .ok (.invokevirtual 183, 3) := by decide +kernel
theorem dX11_reading_9 : decode cX11_reading 9 = .ok (.invokevirtual 266, 3) := by decide +kernel
theorem dX11_reading_12 : decode cX11_reading 12 = .ok (.ireturn, 1) := by decide +kernel
theorem dX11_probeTrough_0 : decode cX11_probeTrough 0 = .ok (.aload_n 0, 1) := by decide +kernel
theorem dX11_probeTrough_1 : decode cX11_probeTrough 1 = .ok (.iload_n 1, 1) := by decide +kernel
theorem dX11_probeTrough_2 : decode cX11_probeTrough 2 = .ok (.invokevirtual 183, 3) := by decide +kernel
theorem dX11_probeTrough_5 : decode cX11_probeTrough 5 = .ok (.getfield 187, 3) := by decide +kernel
theorem dX11_probeTrough_8 : decode cX11_probeTrough 8 = .ok (.ireturn, 1) := by decide +kernel
theorem dX11_probeLayer_0 : decode cX11_probeLayer 0 = .ok (.aload_n 0, 1) := by decide +kernel
theorem dX11_probeLayer_1 : decode cX11_probeLayer 1 = .ok (.iload_n 1, 1) := by decide +kernel
theorem dX11_probeLayer_2 : decode cX11_probeLayer 2 = .ok (.invokevirtual 183, 3) := by decide +kernel
theorem dX11_probeLayer_5 : decode cX11_probeLayer 5 = .ok (.getfield 192, 3) := by decide +kernel
theorem dX11_probeLayer_8 : decode cX11_probeLayer 8 = .ok (.ireturn, 1) := by decide +kernel
theorem dX11_hoursToReady_0 : decode cX11_hoursToReady 0 = .ok (.aload_n 0, 1) := by decide +kernel
theorem dX11_hoursToReady_1 : decode cX11_hoursToReady 1 = .ok (.iload_n 1, 1) := by decide +kernel
theorem dX11_hoursToReady_2 : decode cX11_hoursToReady 2 = .ok (.invokevirtual 124, 3) := by decide +kernel
theorem dX11_hoursToReady_5 : decode cX11_hoursToReady 5 = .ok (.astore_n 2, 1) := by decide +kernel
theorem dX11_hoursToReady_6 : decode cX11_hoursToReady 6 = .ok (.aload_n 2, 1) := by decide +kernel
theorem dX11_hoursToReady_7 : decode cX11_hoursToReady 7 = .ok (.invokevirtual 130, 3) := by decide +kernel
theorem dX11_hoursToReady_10 : decode cX11_hoursToReady 10 = .ok (.ifCond .ne 5, 3) := by decide +kernel
theorem dX11_hoursToReady_13 : decode cX11_hoursToReady 13 = .ok (.iconst (-1), 1) := by decide +kernel
theorem dX11_hoursToReady_14 : decode cX11_hoursToReady 14 = .ok (.ireturn, 1) := by decide +kernel
theorem dX11_hoursToReady_15 : decode cX11_hoursToReady 15 = .ok (.aload_n 0, 1) := by decide +kernel
theorem dX11_hoursToReady_16 : decode cX11_hoursToReady 16 = .ok (.getfield 43, 3) := by decide +kernel
theorem dX11_hoursToReady_19 : decode cX11_hoursToReady 19 = .ok (.aload_n 2, 1) := by decide +kernel
theorem dX11_hoursToReady_20 : decode cX11_hoursToReady 20 = .ok (.invokevirtual 273, 3) := by decide +kernel
theorem dX11_hoursToReady_23 : decode cX11_hoursToReady 23 = .ok (.iconst 0, 1) := by decide +kernel
theorem dX11_hoursToReady_24 : decode cX11_hoursToReady 24 = .ok (.istore_n 3, 1) := by decide +kernel
theorem dX11_hoursToReady_25 : decode cX11_hoursToReady 25 = .ok (.iload_n 3, 1) := by decide +kernel
theorem dX11_hoursToReady_26 : decode cX11_hoursToReady 26 = .ok (.sipush 200, 3) := by decide +kernel
theorem dX11_hoursToReady_29 : decode cX11_hoursToReady 29 = .ok (.if_icmp .gt 55, 3) := by decide +kernel
theorem dX11_hoursToReady_32 : decode cX11_hoursToReady 32 = .ok (.aload_n 0, 1) := by decide +kernel
theorem dX11_hoursToReady_33 : decode cX11_hoursToReady 33 = .ok (.getfield 12, 3) := by decide +kernel
theorem dX11_hoursToReady_36 : decode cX11_hoursToReady 36 = .ok (.aload_n 0, 1) := by decide +kernel
theorem dX11_hoursToReady_37 : decode cX11_hoursToReady 37 = .ok (.getfield 43, 3) := by decide +kernel
theorem dX11_hoursToReady_40 : decode cX11_hoursToReady 40 = .ok (.invokevirtual 279, 3) := by decide +kernel
theorem dX11_hoursToReady_43 : decode cX11_hoursToReady 43 = .ok (.ifCond .eq 5, 3) := by decide +kernel
theorem dX11_hoursToReady_46 : decode cX11_hoursToReady 46 = .ok (.iload_n 3, 1) := by decide +kernel
theorem dX11_hoursToReady_47 : decode cX11_hoursToReady 47 = .ok (.ireturn, 1) := by decide +kernel
theorem dX11_hoursToReady_48 : decode cX11_hoursToReady 48 = .ok (.aload_n 0, 1) := by decide +kernel
theorem dX11_hoursToReady_49 : decode cX11_hoursToReady 49 = .ok (.getfield 43, 3) := by decide +kernel
theorem dX11_hoursToReady_52 : decode cX11_hoursToReady 52 = .ok (.aload_n 0, 1) := by decide +kernel
theorem dX11_hoursToReady_53 : decode cX11_hoursToReady 53 = .ok (.getfield 12, 3) := by decide +kernel
theorem dX11_hoursToReady_56 : decode cX11_hoursToReady 56 = .ok (.getfield 63, 3) := by decide +kernel
theorem dX11_hoursToReady_59 : decode cX11_hoursToReady 59 = .ok (.aload_n 0, 1) := by decide +kernel
theorem dX11_hoursToReady_60 : decode cX11_hoursToReady 60 = .ok (.getfield 12, 3) := by decide +kernel
theorem dX11_hoursToReady_63 : decode cX11_hoursToReady 63 = .ok (.getfield 63, 3) := by decide +kernel
theorem dX11_hoursToReady_66 : decode cX11_hoursToReady 66 = .ok (.getfield 202, 3) := by decide +kernel
theorem dX11_hoursToReady_69 : decode cX11_hoursToReady 69 = .ok (.iload_n 3, 1) := by decide +kernel
theorem dX11_hoursToReady_70 : decode cX11_hoursToReady 70 = .ok (.iadd, 1) := by decide +kernel
theorem dX11_hoursToReady_71 : decode cX11_hoursToReady 71 = .ok (.invokevirtual 230, 3) := by decide +kernel
theorem dX11_hoursToReady_74 : decode cX11_hoursToReady 74 = .ok (.invokevirtual 283, 3) := by decide +kernel
theorem dX11_hoursToReady_77 : decode cX11_hoursToReady 77 = .ok (.pop, 1) := by decide +kernel
theorem dX11_hoursToReady_78 : decode cX11_hoursToReady 78 = .ok (.iinc 3 1, 3) := by decide +kernel
theorem dX11_hoursToReady_81 : decode cX11_hoursToReady 81 = .ok (.goto (-56), 3) := by decide +kernel
theorem dX11_hoursToReady_84 : decode cX11_hoursToReady 84 = .ok (.iconst (-1), 1) := by decide +kernel
theorem dX11_hoursToReady_85 : decode cX11_hoursToReady 85 = .ok (.ireturn, 1) := by decide +kernel
theorem dX11_dischargedKilograms_0 : decode cX11_dischargedKilograms 0 = .ok (.aload_n 0, 1) := by decide +kernel
theorem dX11_dischargedKilograms_1 : decode cX11_dischargedKilograms 1 = .ok (.getfield 12, 3) := by decide +kernel
theorem dX11_dischargedKilograms_4 : decode cX11_dischargedKilograms 4 = .ok (.getfield 290, 3) := by decide +kernel
theorem dX11_dischargedKilograms_7 : decode cX11_dischargedKilograms 7 = .ok (.ireturn, 1) := by decide +kernel
theorem dX11_discardedKilograms_0 : decode cX11_discardedKilograms 0 = .ok (.aload_n 0, 1) := by decide +kernel
theorem dX11_discardedKilograms_1 : decode cX11_discardedKilograms 1 = .ok (.getfield 12, 3) := by decide +kernel
theorem dX11_discardedKilograms_4 : decode cX11_discardedKilograms 4 = .ok (.getfield 293, 3) := by decide +kernel
theorem dX11_discardedKilograms_7 : decode cX11_discardedKilograms 7 = .ok (.ireturn, 1) := by decide +kernel
theorem dX11_totalWorth_0 : decode cX11_totalWorth 0 = .ok (.aload_n 0, 1) := by decide +kernel
theorem dX11_totalWorth_1 : decode cX11_totalWorth 1 = .ok (.getfield 12, 3) := by decide +kernel
theorem dX11_totalWorth_4 : decode cX11_totalWorth 4 = .ok (.getfield 296, 3) := by decide +kernel
theorem dX11_totalWorth_7 : decode cX11_totalWorth 7 = .ok (.ireturn, 1) := by decide +kernel
theorem dX11_lostWater_0 : decode cX11_lostWater 0 = .ok (.aload_n 0, 1) := by decide +kernel
theorem dX11_lostWater_1 : decode cX11_lostWater 1 = .ok (.getfield 12, 3) := by decide +kernel
theorem dX11_lostWater_4 : decode cX11_lostWater 4 = .ok (.getfield 299, 3) := by decide +kernel
theorem dX11_lostWater_7 : decode cX11_lostWater 7 = .ok (.ireturn, 1) := by decide +kernel
theorem dX11_violations_0 : decode cX11_violations 0 = .ok (.aload_n 0, 1) := by decide +kernel
theorem dX11_violations_1 : decode cX11_violations 1 = .ok (.getfield 12, 3) := by decide +kernel
theorem dX11_violations_4 : decode cX11_violations 4 = .ok (.invokevirtual 308, 3) := by decide +kernel
theorem dX11_violations_7 : decode cX11_violations 7 = .ok (.ireturn, 1) := by decide +kernel
theorem dX11_existingTrough_0 : decode cX11_existingTrough 0 = .ok (.aload_n 0, 1) := by decide +kernel
theorem dX11_existingTrough_1 : decode cX11_existingTrough 1 = .ok (.getfield 12, 3) := by decide +kernel
theorem dX11_existingTrough_4 : decode cX11_existingTrough 4 = .ok (.iload_n 1, 1) := by decide +kernel
theorem dX11_existingTrough_5 : decode cX11_existingTrough 5 = .ok (.invokevirtual 318, 3) := by decide +kernel
theorem dX11_existingTrough_8 : decode cX11_existingTrough 8 = .ok (.ifCond .ne 14, 3) := by decide +kernel
theorem dX11_existingTrough_11 : decode cX11_existingTrough 11 = .ok (.new 321, 3) := by decide +kernel
theorem dX11_existingTrough_14 : decode cX11_existingTrough 14 = .ok (.dup, 1) := by decide +kernel
theorem dX11_existingTrough_15 : decode cX11_existingTrough 15 = .ok (.ldc_w 323, 3) := by decide +kernel
theorem dX11_existingTrough_18 : decode cX11_existingTrough 18 = .ok (.invokespecial 325, 3) := by decide +kernel
theorem dX11_existingTrough_21 : decode cX11_existingTrough 21 = .ok (.athrow, 1) := by decide +kernel
theorem dX11_existingTrough_22 : decode cX11_existingTrough 22 = .ok (.aload_n 0, 1) := by decide +kernel
theorem dX11_existingTrough_23 : decode cX11_existingTrough 23 = .ok (.getfield 12, 3) := by decide +kernel
theorem dX11_existingTrough_26 : decode cX11_existingTrough 26 = .ok (.iload_n 1, 1) := by decide +kernel
theorem dX11_existingTrough_27 : decode cX11_existingTrough 27 = .ok (.invokevirtual 51, 3) := by decide +kernel
theorem dX11_existingTrough_30 : decode cX11_existingTrough 30 = .ok (.areturn, 1) := by decide +kernel
theorem dX11_existingProbe_0 : decode cX11_existingProbe 0 = .ok (.aload_n 0, 1) := by decide +kernel
theorem dX11_existingProbe_1 : decode cX11_existingProbe 1 = .ok (.getfield 12, 3) := by decide +kernel
theorem dX11_existingProbe_4 : decode cX11_existingProbe 4 = .ok (.iload_n 1, 1) := by decide +kernel
theorem dX11_existingProbe_5 : decode cX11_existingProbe 5 = .ok (.invokevirtual 326, 3) := by decide +kernel
theorem dX11_existingProbe_8 : decode cX11_existingProbe 8 = .ok (.ifCond .ne 14, 3) := by decide +kernel
theorem dX11_existingProbe_11 : decode cX11_existingProbe 11 = .ok (.new 321, 3) := by decide +kernel
theorem dX11_existingProbe_14 : decode cX11_existingProbe 14 = .ok (.dup, 1) := by decide +kernel
theorem dX11_existingProbe_15 : decode cX11_existingProbe 15 = .ok (.ldc_w 329, 3) := by decide +kernel
theorem dX11_existingProbe_18 : decode cX11_existingProbe 18 = .ok (.invokespecial 325, 3) := by decide +kernel
theorem dX11_existingProbe_21 : decode cX11_existingProbe 21 = .ok (.athrow, 1) := by decide +kernel
theorem dX11_existingProbe_22 : decode cX11_existingProbe 22 = .ok (.aload_n 0, 1) := by decide +kernel
theorem dX11_existingProbe_23 : decode cX11_existingProbe 23 = .ok (.getfield 12, 3) := by decide +kernel
theorem dX11_existingProbe_26 : decode cX11_existingProbe 26 = .ok (.iload_n 1, 1) := by decide +kernel
theorem dX11_existingProbe_27 : decode cX11_existingProbe 27 = .ok (.invokevirtual 331, 3) := by decide +kernel
theorem dX11_existingProbe_30 : decode cX11_existingProbe 30 = .ok (.areturn, 1) := by decide +kernel
theorem dX11_requireRange_0 : decode cX11_requireRange 0 = .ok (.iload_n 0, 1) := by decide +kernel
theorem dX11_requireRange_1 : decode cX11_requireRange 1 = .ok (.iload_n 1, 1) := by decide +kernel
theorem dX11_requireRange_2 : decode cX11_requireRange 2 = .ok (.if_icmp .lt 8, 3) := by decide +kernel
theorem dX11_requireRange_5 : decode cX11_requireRange 5 = .ok (.iload_n 0, 1) := by decide +kernel
theorem dX11_requireRange_6 : decode cX11_requireRange 6 = .ok (.iload_n 2, 1) := by decide +kernel
theorem dX11_requireRange_7 : decode cX11_requireRange 7 = .ok (.if_icmp .le 14, 3) := by decide +kernel
theorem dX11_requireRange_10 : decode cX11_requireRange 10 = .ok (.new 334, 3) := by decide +kernel
theorem dX11_requireRange_13 : decode cX11_requireRange 13 = .ok (.dup, 1) := by decide +kernel
theorem dX11_requireRange_14 : decode cX11_requireRange 14 = .ok (.ldc_w 336, 3) := by decide +kernel
theorem dX11_requireRange_17 : decode cX11_requireRange 17 = .ok (.invokespecial 338, 3) := by decide +kernel
theorem dX11_requireRange_20 : decode cX11_requireRange 20 = .ok (.athrow, 1) := by decide +kernel
theorem dX11_requireRange_21 : decode cX11_requireRange 21 = .ok (.return_, 1) := by decide +kernel
theorem dX11_refuseIf_0 : decode cX11_refuseIf 0 = .ok (.iload_n 0, 1) := by decide +kernel
theorem dX11_refuseIf_1 : decode cX11_refuseIf 1 = .ok (.ifCond .eq 14, 3) := by decide +kernel
theorem dX11_refuseIf_4 : decode cX11_refuseIf 4 = .ok (.new 339, 3) := by decide +kernel
theorem dX11_refuseIf_7 : decode cX11_refuseIf 7 = .ok (.dup, 1) := by decide +kernel
theorem dX11_refuseIf_8 : decode cX11_refuseIf 8 = .ok (.ldc_w 341, 3) := by decide +kernel
theorem dX11_refuseIf_11 : decode cX11_refuseIf 11 = .ok (.invokespecial 343, 3) := by decide +kernel
theorem dX11_refuseIf_14 : decode cX11_refuseIf 14 = .ok (.athrow, 1) := by decide +kernel
theorem dX11_refuseIf_15 : decode cX11_refuseIf 15 = .ok (.return_, 1) := by decide +kernel
theorem dX11_notBelowLowest_0 : decode cX11_notBelowLowest 0 = .ok (.iload_n 0, 1) := by decide +kernel
theorem dX11_notBelowLowest_1 : decode cX11_notBelowLowest 1 = .ok (.sipush 300, 3) := by decide +kernel
theorem dX11_notBelowLowest_4 : decode cX11_notBelowLowest 4 = .ok (.if_icmp .ge 9, 3) := by decide +kernel
theorem dX11_notBelowLowest_7 : decode cX11_notBelowLowest 7 = .ok (.sipush 300, 3) := by decide +kernel
theorem dX11_notBelowLowest_10 : decode cX11_notBelowLowest 10 = .ok (.goto 4, 3) := by decide +kernel
theorem dX11_notBelowLowest_13 : decode cX11_notBelowLowest 13 = .ok (.iload_n 0, 1) := by decide +kernel
theorem dX11_notBelowLowest_14 : decode cX11_notBelowLowest 14 = .ok (.ireturn, 1) := by decide +kernel
end
section
theorem dJ6_bitCount_0f7a4_0 : decode cJ6_bitCount_0f7a4 0 = .ok (.iload_n 0, 1) := by decide +kernel
theorem dJ6_bitCount_0f7a4_1 : decode cJ6_bitCount_0f7a4 1 = .ok (.iload_n 0, 1) := by decide +kernel
theorem dJ6_bitCount_0f7a4_2 : decode cJ6_bitCount_0f7a4 2 = .ok (.iconst 1, 1) := by decide +kernel
theorem dJ6_bitCount_0f7a4_3 : decode cJ6_bitCount_0f7a4 3 = .ok (.iushr, 1) := by decide +kernel
theorem dJ6_bitCount_0f7a4_4 : decode cJ6_bitCount_0f7a4 4 = .ok (.ldc_w 265, 3) := by decide +kernel
theorem dJ6_bitCount_0f7a4_7 : decode cJ6_bitCount_0f7a4 7 = .ok (.iand, 1) := by decide +kernel
theorem dJ6_bitCount_0f7a4_8 : decode cJ6_bitCount_0f7a4 8 = .ok (.isub, 1) := by decide +kernel
theorem dJ6_bitCount_0f7a4_9 : decode cJ6_bitCount_0f7a4 9 = .ok (.istore_n 0, 1) := by decide +kernel
theorem dJ6_bitCount_0f7a4_10 : decode cJ6_bitCount_0f7a4 10 = .ok (.iload_n 0, 1) := by decide +kernel
theorem dJ6_bitCount_0f7a4_11 : decode cJ6_bitCount_0f7a4 11 = .ok (.ldc_w 266, 3) := by decide +kernel
theorem dJ6_bitCount_0f7a4_14 : decode cJ6_bitCount_0f7a4 14 = .ok (.iand, 1) := by decide +kernel
theorem dJ6_bitCount_0f7a4_15 : decode cJ6_bitCount_0f7a4 15 = .ok (.iload_n 0, 1) := by decide +kernel
theorem dJ6_bitCount_0f7a4_16 : decode cJ6_bitCount_0f7a4 16 = .ok (.iconst 2, 1) := by decide +kernel
theorem dJ6_bitCount_0f7a4_17 : decode cJ6_bitCount_0f7a4 17 = .ok (.iushr, 1) := by decide +kernel
theorem dJ6_bitCount_0f7a4_18 : decode cJ6_bitCount_0f7a4 18 = .ok (.ldc_w 266, 3) := by decide +kernel
theorem dJ6_bitCount_0f7a4_21 : decode cJ6_bitCount_0f7a4 21 = .ok (.iand, 1) := by decide +kernel
theorem dJ6_bitCount_0f7a4_22 : decode cJ6_bitCount_0f7a4 22 = .ok (.iadd, 1) := by decide +kernel
theorem dJ6_bitCount_0f7a4_23 : decode cJ6_bitCount_0f7a4 23 = .ok (.istore_n 0, 1) := by decide +kernel
theorem dJ6_bitCount_0f7a4_24 : decode cJ6_bitCount_0f7a4 24 = .ok (.iload_n 0, 1) := by decide +kernel
theorem dJ6_bitCount_0f7a4_25 : decode cJ6_bitCount_0f7a4 25 = .ok (.iload_n 0, 1) := by decide +kernel
theorem dJ6_bitCount_0f7a4_26 : decode cJ6_bitCount_0f7a4 26 = .ok (.iconst 4, 1) := by decide +kernel
theorem dJ6_bitCount_0f7a4_27 : decode cJ6_bitCount_0f7a4 27 = .ok (.iushr, 1) := by decide +kernel
theorem dJ6_bitCount_0f7a4_28 : decode cJ6_bitCount_0f7a4 28 = .ok (.iadd, 1) := by decide +kernel
theorem dJ6_bitCount_0f7a4_29 : decode cJ6_bitCount_0f7a4 29 = .ok (.ldc_w 267, 3) := by decide +kernel
theorem dJ6_bitCount_0f7a4_32 : decode cJ6_bitCount_0f7a4 32 = .ok (.iand, 1) := by decide +kernel
theorem dJ6_bitCount_0f7a4_33 : decode cJ6_bitCount_0f7a4 33 = .ok (.istore_n 0, 1) := by decide +kernel
theorem dJ6_bitCount_0f7a4_34 : decode cJ6_bitCount_0f7a4 34 = .ok (.iload_n 0, 1) := by decide +kernel
theorem dJ6_bitCount_0f7a4_35 : decode cJ6_bitCount_0f7a4 35 = .ok (.iload_n 0, 1) := by decide +kernel
theorem dJ6_bitCount_0f7a4_36 : decode cJ6_bitCount_0f7a4 36 = .ok (.bipush 8, 2) := by decide +kernel
theorem dJ6_bitCount_0f7a4_38 : decode cJ6_bitCount_0f7a4 38 = .ok (.iushr, 1) := by decide +kernel
theorem dJ6_bitCount_0f7a4_39 : decode cJ6_bitCount_0f7a4 39 = .ok (.iadd, 1) := by decide +kernel
theorem dJ6_bitCount_0f7a4_40 : decode cJ6_bitCount_0f7a4 40 = .ok (.istore_n 0, 1) := by decide +kernel
theorem dJ6_bitCount_0f7a4_41 : decode cJ6_bitCount_0f7a4 41 = .ok (.iload_n 0, 1) := by decide +kernel
theorem dJ6_bitCount_0f7a4_42 : decode cJ6_bitCount_0f7a4 42 = .ok (.iload_n 0, 1) := by decide +kernel
theorem dJ6_bitCount_0f7a4_43 : decode cJ6_bitCount_0f7a4 43 = .ok (.bipush 16, 2) := by decide +kernel
theorem dJ6_bitCount_0f7a4_45 : decode cJ6_bitCount_0f7a4 45 = .ok (.iushr, 1) := by decide +kernel
theorem dJ6_bitCount_0f7a4_46 : decode cJ6_bitCount_0f7a4 46 = .ok (.iadd, 1) := by decide +kernel
theorem dJ6_bitCount_0f7a4_47 : decode cJ6_bitCount_0f7a4 47 = .ok (.istore_n 0, 1) := by decide +kernel
theorem dJ6_bitCount_0f7a4_48 : decode cJ6_bitCount_0f7a4 48 = .ok (.iload_n 0, 1) := by decide +kernel
theorem dJ6_bitCount_0f7a4_49 : decode cJ6_bitCount_0f7a4 49 = .ok (.bipush 63, 2) := by decide +kernel
theorem dJ6_bitCount_0f7a4_51 : decode cJ6_bitCount_0f7a4 51 = .ok (.iand, 1) := by decide +kernel
theorem dJ6_bitCount_0f7a4_52 : decode cJ6_bitCount_0f7a4 52 = .ok (.ireturn, 1) := by decide +kernel
theorem dJ9_floorMod_7cf53_0 : decode cJ9_floorMod_7cf53 0 = .ok (.iload_n 0, 1) := by decide +kernel
theorem dJ9_floorMod_7cf53_1 : decode cJ9_floorMod_7cf53 1 = .ok (.iload_n 1, 1) := by decide +kernel
theorem dJ9_floorMod_7cf53_2 : decode cJ9_floorMod_7cf53 2 = .ok (.irem, 1) := by decide +kernel
theorem dJ9_floorMod_7cf53_3 : decode cJ9_floorMod_7cf53 3 = .ok (.istore_n 2, 1) := by decide +kernel
theorem dJ9_floorMod_7cf53_4 : decode cJ9_floorMod_7cf53 4 = .ok (.iload_n 0, 1) := by decide +kernel
theorem dJ9_floorMod_7cf53_5 : decode cJ9_floorMod_7cf53 5 = .ok (.iload_n 1, 1) := by decide +kernel
theorem dJ9_floorMod_7cf53_6 : decode cJ9_floorMod_7cf53 6 = .ok (.ixor, 1) := by decide +kernel
theorem dJ9_floorMod_7cf53_7 : decode cJ9_floorMod_7cf53 7 = .ok (.ifCond .ge 11, 3) := by decide +kernel
theorem dJ9_floorMod_7cf53_10 : decode cJ9_floorMod_7cf53 10 = .ok (.iload_n 2, 1) := by decide +kernel
theorem dJ9_floorMod_7cf53_11 : decode cJ9_floorMod_7cf53 11 = .ok (.ifCond .eq 7, 3) := by decide +kernel
theorem dJ9_floorMod_7cf53_14 : decode cJ9_floorMod_7cf53 14 = .ok (.iload_n 2, 1) := by decide +kernel
theorem dJ9_floorMod_7cf53_15 : decode cJ9_floorMod_7cf53 15 = .ok (.iload_n 1, 1) := by decide +kernel
theorem dJ9_floorMod_7cf53_16 : decode cJ9_floorMod_7cf53 16 = .ok (.iadd, 1) := by decide +kernel
theorem dJ9_floorMod_7cf53_17 : decode cJ9_floorMod_7cf53 17 = .ok (.ireturn, 1) := by decide +kernel
theorem dJ9_floorMod_7cf53_18 : decode cJ9_floorMod_7cf53 18 = .ok (.iload_n 2, 1) := by decide +kernel
theorem dJ9_floorMod_7cf53_19 : decode cJ9_floorMod_7cf53 19 = .ok (.ireturn, 1) := by decide +kernel
theorem dJ9_abs_0f7a4_0 : decode cJ9_abs_0f7a4 0 = .ok (.iload_n 0, 1) := by decide +kernel
theorem dJ9_abs_0f7a4_1 : decode cJ9_abs_0f7a4 1 = .ok (.ifCond .ge 8, 3) := by decide +kernel
theorem dJ9_abs_0f7a4_4 : decode cJ9_abs_0f7a4 4 = .ok (.iload_n 0, 1) := by decide +kernel
theorem dJ9_abs_0f7a4_5 : decode cJ9_abs_0f7a4 5 = .ok (.ineg, 1) := by decide +kernel
theorem dJ9_abs_0f7a4_6 : decode cJ9_abs_0f7a4 6 = .ok (.goto 4, 3) := by decide +kernel
theorem dJ9_abs_0f7a4_9 : decode cJ9_abs_0f7a4 9 = .ok (.iload_n 0, 1) := by decide +kernel
theorem dJ9_abs_0f7a4_10 : decode cJ9_abs_0f7a4 10 = .ok (.ireturn, 1) := by decide +kernel
theorem dJ9_max_7cf53_0 : decode cJ9_max_7cf53 0 = .ok (.iload_n 0, 1) := by decide +kernel
theorem dJ9_max_7cf53_1 : decode cJ9_max_7cf53 1 = .ok (.iload_n 1, 1) := by decide +kernel
theorem dJ9_max_7cf53_2 : decode cJ9_max_7cf53 2 = .ok (.if_icmp .lt 7, 3) := by decide +kernel
theorem dJ9_max_7cf53_5 : decode cJ9_max_7cf53 5 = .ok (.iload_n 0, 1) := by decide +kernel
theorem dJ9_max_7cf53_6 : decode cJ9_max_7cf53 6 = .ok (.goto 4, 3) := by decide +kernel
theorem dJ9_max_7cf53_9 : decode cJ9_max_7cf53 9 = .ok (.iload_n 1, 1) := by decide +kernel
theorem dJ9_max_7cf53_10 : decode cJ9_max_7cf53 10 = .ok (.ireturn, 1) := by decide +kernel
theorem dL_cell_0 : decode cL_cell 0 = .ok (.iload_n 1, 1) := by decide +kernel
theorem dL_cell_1 : decode cL_cell 1 = .ok (.aload_n 0, 1) := by decide +kernel
theorem dL_cell_2 : decode cL_cell 2 = .ok (.arraylength, 1) := by decide +kernel
theorem dL_cell_3 : decode cL_cell 3 = .ok (.if_icmp .ge 9, 3) := by decide +kernel
theorem dL_cell_6 : decode cL_cell 6 = .ok (.aload_n 0, 1) := by decide +kernel
theorem dL_cell_7 : decode cL_cell 7 = .ok (.iload_n 1, 1) := by decide +kernel
theorem dL_cell_8 : decode cL_cell 8 = .ok (.iaload, 1) := by decide +kernel
theorem dL_cell_9 : decode cL_cell 9 = .ok (.goto 4, 3) := by decide +kernel
theorem dL_cell_12 : decode cL_cell 12 = .ok (.iconst 0, 1) := by decide +kernel
theorem dL_cell_13 : decode cL_cell 13 = .ok (.ireturn, 1) := by decide +kernel
theorem dL_deed_0 : decode cL_deed 0 = .ok (.iload_n 1, 1) := by decide +kernel
theorem dL_deed_1 : decode cL_deed 1 = .ok (.iconst 4, 1) := by decide +kernel
theorem dL_deed_2 : decode cL_deed 2 = .ok (.iushr, 1) := by decide +kernel
theorem dL_deed_3 : decode cL_deed 3 = .ok (.bipush 15, 2) := by decide +kernel
theorem dL_deed_5 : decode cL_deed 5 = .ok (.iand, 1) := by decide +kernel
theorem dL_deed_6 : decode cL_deed 6 = .ok (.aload_n 0, 1) := by decide +kernel
theorem dL_deed_7 : decode cL_deed 7 = .ok (.invokevirtual 7, 3) := by decide +kernel
theorem dL_deed_10 : decode cL_deed 10 = .ok (.irem, 1) := by decide +kernel
theorem dL_deed_11 : decode cL_deed 11 = .ok (.istore_n 2, 1) := by decide +kernel
theorem dL_deed_12 : decode cL_deed 12 = .ok (.iload_n 1, 1) := by decide +kernel
theorem dL_deed_13 : decode cL_deed 13 = .ok (.bipush 8, 2) := by decide +kernel
theorem dL_deed_15 : decode cL_deed 15 = .ok (.iushr, 1) := by decide +kernel
theorem dL_deed_16 : decode cL_deed 16 = .ok (.sipush 1023, 3) := by decide +kernel
theorem dL_deed_19 : decode cL_deed 19 = .ok (.iand, 1) := by decide +kernel
theorem dL_deed_20 : decode cL_deed 20 = .ok (.istore_n 3, 1) := by decide +kernel
theorem dL_deed_21 : decode cL_deed 21 = .ok (.iload_n 1, 1) := by decide +kernel
theorem dL_deed_22 : decode cL_deed 22 = .ok (.bipush 18, 2) := by decide +kernel
theorem dL_deed_24 : decode cL_deed 24 = .ok (.iushr, 1) := by decide +kernel
theorem dL_deed_25 : decode cL_deed 25 = .ok (.bipush 63, 2) := by decide +kernel
theorem dL_deed_27 : decode cL_deed 27 = .ok (.iand, 1) := by decide +kernel
theorem dL_deed_28 : decode cL_deed 28 = .ok (.istore 4, 2) := by decide +kernel
theorem dL_deed_30 : decode cL_deed 30 = .ok (.iload_n 3, 1) := by decide +kernel
theorem dL_deed_31 : decode cL_deed 31 = .ok (.aload_n 0, 1) := by decide +kernel
theorem dL_deed_32 : decode cL_deed 32 = .ok (.invokevirtual 13, 3) := by decide +kernel
theorem dL_deed_35 : decode cL_deed 35 = .ok (.irem, 1) := by decide +kernel
theorem dL_deed_36 : decode cL_deed 36 = .ok (.istore 5, 2) := by decide +kernel
theorem dL_deed_38 : decode cL_deed 38 = .ok (.iload_n 1, 1) := by decide +kernel
theorem dL_deed_39 : decode cL_deed 39 = .ok (.bipush 15, 2) := by decide +kernel
theorem dL_deed_41 : decode cL_deed 41 = .ok (.iand, 1) := by decide +kernel
theorem dL_deed_42 : decode cL_deed 42 = .ok (.tableswitch 388 0 14 #[74, 74, 121, 121, 134, 143, 155, 170, 195, 219, 236, 290, 313, 338, 378], 74) := by decide +kernel
theorem dL_deed_116 : decode cL_deed 116 = .ok (.aload_n 0, 1) := by decide +kernel
theorem dL_deed_117 : decode cL_deed 117 = .ok (.iload_n 2, 1) := by decide +kernel
theorem dL_deed_118 : decode cL_deed 118 = .ok (.invokevirtual 16, 3) := by decide +kernel
theorem dL_deed_121 : decode cL_deed 121 = .ok (.ifCond .ne 29, 3) := by decide +kernel
theorem dL_deed_124 : decode cL_deed 124 = .ok (.aload_n 0, 1) := by decide +kernel
theorem dL_deed_125 : decode cL_deed 125 = .ok (.iload_n 2, 1) := by decide +kernel
theorem dL_deed_126 : decode cL_deed 126 = .ok (.iconst 1, 1) := by decide +kernel
theorem dL_deed_127 : decode cL_deed 127 = .ok (.iload_n 3, 1) := by decide +kernel
theorem dL_deed_128 : decode cL_deed 128 = .ok (.aload_n 0, 1) := by decide +kernel
theorem dL_deed_129 : decode cL_deed 129 = .ok (.iload_n 2, 1) := by decide +kernel
theorem dL_deed_130 : decode cL_deed 130 = .ok (.invokevirtual 20, 3) := by decide +kernel
theorem dL_deed_133 : decode cL_deed 133 = .ok (.irem, 1) := by decide +kernel
theorem dL_deed_134 : decode cL_deed 134 = .ok (.iadd, 1) := by decide +kernel
theorem dL_deed_135 : decode cL_deed 135 = .ok (.sipush 600, 3) := by decide +kernel
theorem dL_deed_138 : decode cL_deed 138 = .ok (.iload 4, 2) := by decide +kernel
theorem dL_deed_140 : decode cL_deed 140 = .ok (.iconst 4, 1) := by decide +kernel
theorem dL_deed_141 : decode cL_deed 141 = .ok (.imul, 1) := by decide +kernel
theorem dL_deed_142 : decode cL_deed 142 = .ok (.iadd, 1) := by decide +kernel
theorem dL_deed_143 : decode cL_deed 143 = .ok (.invokevirtual 23, 3) := by decide +kernel
theorem dL_deed_146 : decode cL_deed 146 = .ok (.pop, 1) := by decide +kernel
theorem dL_deed_147 : decode cL_deed 147 = .ok (.goto 311, 3) := by decide +kernel
theorem dL_deed_150 : decode cL_deed 150 = .ok (.aload_n 0, 1) := by decide +kernel
theorem dL_deed_151 : decode cL_deed 151 = .ok (.iload_n 2, 1) := by decide +kernel
theorem dL_deed_152 : decode cL_deed 152 = .ok (.iload_n 3, 1) := by decide +kernel
theorem dL_deed_153 : decode cL_deed 153 = .ok (.bipush 6, 2) := by decide +kernel
theorem dL_deed_155 : decode cL_deed 155 = .ok (.irem, 1) := by decide +kernel
theorem dL_deed_156 : decode cL_deed 156 = .ok (.invokevirtual 27, 3) := by decide +kernel
theorem dL_deed_159 : decode cL_deed 159 = .ok (.pop, 1) := by decide +kernel
theorem dL_deed_160 : decode cL_deed 160 = .ok (.goto 298, 3) := by decide +kernel
theorem dL_deed_163 : decode cL_deed 163 = .ok (.aload_n 0, 1) := by decide +kernel
theorem dL_deed_164 : decode cL_deed 164 = .ok (.iload_n 2, 1) := by decide +kernel
theorem dL_deed_165 : decode cL_deed 165 = .ok (.iload_n 3, 1) := by decide +kernel
theorem dL_deed_166 : decode cL_deed 166 = .ok (.bipush 6, 2) := by decide +kernel
theorem dL_deed_168 : decode cL_deed 168 = .ok (.irem, 1) := by decide +kernel
theorem dL_deed_169 : decode cL_deed 169 = .ok (.invokevirtual 27, 3) := by decide +kernel
theorem dL_deed_172 : decode cL_deed 172 = .ok (.pop, 1) := by decide +kernel
theorem dL_deed_173 : decode cL_deed 173 = .ok (.goto 285, 3) := by decide +kernel
theorem dL_deed_176 : decode cL_deed 176 = .ok (.aload_n 0, 1) := by decide +kernel
theorem dL_deed_177 : decode cL_deed 177 = .ok (.iload_n 2, 1) := by decide +kernel
theorem dL_deed_178 : decode cL_deed 178 = .ok (.invokevirtual 31, 3) := by decide +kernel
theorem dL_deed_181 : decode cL_deed 181 = .ok (.pop, 1) := by decide +kernel
theorem dL_deed_182 : decode cL_deed 182 = .ok (.goto 276, 3) := by decide +kernel
theorem dL_deed_185 : decode cL_deed 185 = .ok (.aload_n 0, 1) := by decide +kernel
theorem dL_deed_186 : decode cL_deed 186 = .ok (.iload_n 3, 1) := by decide +kernel
theorem dL_deed_187 : decode cL_deed 187 = .ok (.bipush 6, 2) := by decide +kernel
theorem dL_deed_189 : decode cL_deed 189 = .ok (.irem, 1) := by decide +kernel
theorem dL_deed_190 : decode cL_deed 190 = .ok (.invokevirtual 35, 3) := by decide +kernel
theorem dL_deed_193 : decode cL_deed 193 = .ok (.pop, 1) := by decide +kernel
theorem dL_deed_194 : decode cL_deed 194 = .ok (.goto 264, 3) := by decide +kernel
theorem dL_deed_197 : decode cL_deed 197 = .ok (.aload_n 0, 1) := by decide +kernel
theorem dL_deed_198 : decode cL_deed 198 = .ok (.bipush 20, 2) := by decide +kernel
theorem dL_deed_200 : decode cL_deed 200 = .ok (.iload_n 3, 1) := by decide +kernel
theorem dL_deed_201 : decode cL_deed 201 = .ok (.bipush 76, 2) := by decide +kernel
theorem dL_deed_203 : decode cL_deed 203 = .ok (.irem, 1) := by decide +kernel
theorem dL_deed_204 : decode cL_deed 204 = .ok (.iadd, 1) := by decide +kernel
theorem dL_deed_205 : decode cL_deed 205 = .ok (.invokevirtual 38, 3) := by decide +kernel
theorem dL_deed_208 : decode cL_deed 208 = .ok (.pop, 1) := by decide +kernel
theorem dL_deed_209 : decode cL_deed 209 = .ok (.goto 249, 3) := by decide +kernel
theorem dL_deed_212 : decode cL_deed 212 = .ok (.aload_n 0, 1) := by decide +kernel
theorem dL_deed_213 : decode cL_deed 213 = .ok (.iload_n 2, 1) := by decide +kernel
theorem dL_deed_214 : decode cL_deed 214 = .ok (.invokevirtual 16, 3) := by decide +kernel
theorem dL_deed_217 : decode cL_deed 217 = .ok (.ifCond .le 241, 3) := by decide +kernel
theorem dL_deed_220 : decode cL_deed 220 = .ok (.aload_n 0, 1) := by decide +kernel
theorem dL_deed_221 : decode cL_deed 221 = .ok (.iload_n 2, 1) := by decide +kernel
theorem dL_deed_222 : decode cL_deed 222 = .ok (.invokevirtual 41, 3) := by decide +kernel
theorem dL_deed_225 : decode cL_deed 225 = .ok (.ifCond .ne 233, 3) := by decide +kernel
theorem dL_deed_228 : decode cL_deed 228 = .ok (.aload_n 0, 1) := by decide +kernel
theorem dL_deed_229 : decode cL_deed 229 = .ok (.iload_n 2, 1) := by decide +kernel
theorem dL_deed_230 : decode cL_deed 230 = .ok (.invokevirtual 44, 3) := by decide +kernel
theorem dL_deed_233 : decode cL_deed 233 = .ok (.pop, 1) := by decide +kernel
theorem dL_deed_234 : decode cL_deed 234 = .ok (.goto 224, 3) := by decide +kernel
theorem dL_deed_237 : decode cL_deed 237 = .ok (.aload_n 0, 1) := by decide +kernel
theorem dL_deed_238 : decode cL_deed 238 = .ok (.sipush 500, 3) := by decide +kernel
theorem dL_deed_241 : decode cL_deed 241 = .ok (.iload_n 3, 1) := by decide +kernel
theorem dL_deed_242 : decode cL_deed 242 = .ok (.sipush 201, 3) := by decide +kernel
theorem dL_deed_245 : decode cL_deed 245 = .ok (.irem, 1) := by decide +kernel
theorem dL_deed_246 : decode cL_deed 246 = .ok (.iadd, 1) := by decide +kernel
theorem dL_deed_247 : decode cL_deed 247 = .ok (.iconst 5, 1) := by decide +kernel
theorem dL_deed_248 : decode cL_deed 248 = .ok (.iload 4, 2) := by decide +kernel
theorem dL_deed_250 : decode cL_deed 250 = .ok (.bipush 46, 2) := by decide +kernel
theorem dL_deed_252 : decode cL_deed 252 = .ok (.irem, 1) := by decide +kernel
theorem dL_deed_253 : decode cL_deed 253 = .ok (.iadd, 1) := by decide +kernel
theorem dL_deed_254 : decode cL_deed 254 = .ok (.invokevirtual 47, 3) := by decide +kernel
theorem dL_deed_257 : decode cL_deed 257 = .ok (.pop, 1) := by decide +kernel
theorem dL_deed_258 : decode cL_deed 258 = .ok (.goto 200, 3) := by decide +kernel
theorem dL_deed_261 : decode cL_deed 261 = .ok (.aload_n 0, 1) := by decide +kernel
theorem dL_deed_262 : decode cL_deed 262 = .ok (.iload_n 2, 1) := by decide +kernel
theorem dL_deed_263 : decode cL_deed 263 = .ok (.invokevirtual 16, 3) := by decide +kernel
theorem dL_deed_266 : decode cL_deed 266 = .ok (.ifCond .le 192, 3) := by decide +kernel
theorem dL_deed_269 : decode cL_deed 269 = .ok (.aload_n 0, 1) := by decide +kernel
theorem dL_deed_270 : decode cL_deed 270 = .ok (.iload_n 2, 1) := by decide +kernel
theorem dL_deed_271 : decode cL_deed 271 = .ok (.invokevirtual 44, 3) := by decide +kernel
theorem dL_deed_274 : decode cL_deed 274 = .ok (.pop, 1) := by decide +kernel
theorem dL_deed_275 : decode cL_deed 275 = .ok (.goto 183, 3) := by decide +kernel
theorem dL_deed_278 : decode cL_deed 278 = .ok (.aload_n 0, 1) := by decide +kernel
theorem dL_deed_279 : decode cL_deed 279 = .ok (.iload_n 2, 1) := by decide +kernel
theorem dL_deed_280 : decode cL_deed 280 = .ok (.invokevirtual 50, 3) := by decide +kernel
theorem dL_deed_283 : decode cL_deed 283 = .ok (.ifCond .ne 12, 3) := by decide +kernel
theorem dL_deed_286 : decode cL_deed 286 = .ok (.aload_n 0, 1) := by decide +kernel
theorem dL_deed_287 : decode cL_deed 287 = .ok (.iload_n 2, 1) := by decide +kernel
theorem dL_deed_288 : decode cL_deed 288 = .ok (.invokevirtual 53, 3) := by decide +kernel
theorem dL_deed_291 : decode cL_deed 291 = .ok (.pop, 1) := by decide +kernel
theorem dL_deed_292 : decode cL_deed 292 = .ok (.goto 166, 3) := by decide +kernel
theorem dL_deed_295 : decode cL_deed 295 = .ok (.aload_n 0, 1) := by decide +kernel
theorem dL_deed_296 : decode cL_deed 296 = .ok (.iload_n 2, 1) := by decide +kernel
theorem dL_deed_297 : decode cL_deed 297 = .ok (.invokevirtual 56, 3) := by decide +kernel
theorem dL_deed_300 : decode cL_deed 300 = .ok (.ifCond .le 158, 3) := by decide +kernel
theorem dL_deed_303 : decode cL_deed 303 = .ok (.aload_n 0, 1) := by decide +kernel
theorem dL_deed_304 : decode cL_deed 304 = .ok (.invokevirtual 59, 3) := by decide +kernel
theorem dL_deed_307 : decode cL_deed 307 = .ok (.aload_n 0, 1) := by decide +kernel
theorem dL_deed_308 : decode cL_deed 308 = .ok (.iload_n 2, 1) := by decide +kernel
theorem dL_deed_309 : decode cL_deed 309 = .ok (.invokevirtual 56, 3) := by decide +kernel
theorem dL_deed_312 : decode cL_deed 312 = .ok (.iadd, 1) := by decide +kernel
theorem dL_deed_313 : decode cL_deed 313 = .ok (.sipush 2000, 3) := by decide +kernel
theorem dL_deed_316 : decode cL_deed 316 = .ok (.if_icmp .gt 142, 3) := by decide +kernel
theorem dL_deed_319 : decode cL_deed 319 = .ok (.aload_n 0, 1) := by decide +kernel
theorem dL_deed_320 : decode cL_deed 320 = .ok (.aload_n 0, 1) := by decide +kernel
theorem dL_deed_321 : decode cL_deed 321 = .ok (.iload_n 2, 1) := by decide +kernel
theorem dL_deed_322 : decode cL_deed 322 = .ok (.invokevirtual 56, 3) := by decide +kernel
theorem dL_deed_325 : decode cL_deed 325 = .ok (.invokevirtual 62, 3) := by decide +kernel
theorem dL_deed_328 : decode cL_deed 328 = .ok (.pop, 1) := by decide +kernel
theorem dL_deed_329 : decode cL_deed 329 = .ok (.goto 129, 3) := by decide +kernel
theorem dL_deed_332 : decode cL_deed 332 = .ok (.aload_n 0, 1) := by decide +kernel
theorem dL_deed_333 : decode cL_deed 333 = .ok (.iload_n 2, 1) := by decide +kernel
theorem dL_deed_334 : decode cL_deed 334 = .ok (.invokevirtual 16, 3) := by decide +kernel
theorem dL_deed_337 : decode cL_deed 337 = .ok (.ifCond .le 121, 3) := by decide +kernel
theorem dL_deed_340 : decode cL_deed 340 = .ok (.iload_n 3, 1) := by decide +kernel
theorem dL_deed_341 : decode cL_deed 341 = .ok (.iconst 3, 1) := by decide +kernel
theorem dL_deed_342 : decode cL_deed 342 = .ok (.iand, 1) := by decide +kernel
theorem dL_deed_343 : decode cL_deed 343 = .ok (.ifCond .ne 115, 3) := by decide +kernel
theorem dL_deed_346 : decode cL_deed 346 = .ok (.aload_n 0, 1) := by decide +kernel
theorem dL_deed_347 : decode cL_deed 347 = .ok (.iload_n 2, 1) := by decide +kernel
theorem dL_deed_348 : decode cL_deed 348 = .ok (.invokevirtual 65, 3) := by decide +kernel
theorem dL_deed_351 : decode cL_deed 351 = .ok (.pop, 1) := by decide +kernel
theorem dL_deed_352 : decode cL_deed 352 = .ok (.goto 106, 3) := by decide +kernel
theorem dL_deed_355 : decode cL_deed 355 = .ok (.aload_n 0, 1) := by decide +kernel
theorem dL_deed_356 : decode cL_deed 356 = .ok (.invokevirtual 7, 3) := by decide +kernel
theorem dL_deed_359 : decode cL_deed 359 = .ok (.bipush 8, 2) := by decide +kernel
theorem dL_deed_361 : decode cL_deed 361 = .ok (.if_icmp .ge 97, 3) := by decide +kernel
theorem dL_deed_364 : decode cL_deed 364 = .ok (.aload_n 0, 1) := by decide +kernel
theorem dL_deed_365 : decode cL_deed 365 = .ok (.bipush 10, 2) := by decide +kernel
theorem dL_deed_367 : decode cL_deed 367 = .ok (.iload_n 3, 1) := by decide +kernel
theorem dL_deed_368 : decode cL_deed 368 = .ok (.sipush 491, 3) := by decide +kernel
theorem dL_deed_371 : decode cL_deed 371 = .ok (.irem, 1) := by decide +kernel
theorem dL_deed_372 : decode cL_deed 372 = .ok (.iadd, 1) := by decide +kernel
theorem dL_deed_373 : decode cL_deed 373 = .ok (.invokevirtual 68, 3) := by decide +kernel
theorem dL_deed_376 : decode cL_deed 376 = .ok (.pop, 1) := by decide +kernel
theorem dL_deed_377 : decode cL_deed 377 = .ok (.goto 81, 3) := by decide +kernel
theorem dL_deed_380 : decode cL_deed 380 = .ok (.aload_n 0, 1) := by decide +kernel
theorem dL_deed_381 : decode cL_deed 381 = .ok (.invokevirtual 13, 3) := by decide +kernel
theorem dL_deed_384 : decode cL_deed 384 = .ok (.bipush 6, 2) := by decide +kernel
theorem dL_deed_386 : decode cL_deed 386 = .ok (.if_icmp .ge 20, 3) := by decide +kernel
theorem dL_deed_389 : decode cL_deed 389 = .ok (.aload_n 0, 1) := by decide +kernel
theorem dL_deed_390 : decode cL_deed 390 = .ok (.iload_n 2, 1) := by decide +kernel
theorem dL_deed_391 : decode cL_deed 391 = .ok (.iload_n 3, 1) := by decide +kernel
theorem dL_deed_392 : decode cL_deed 392 = .ok (.iconst 1, 1) := by decide +kernel
theorem dL_deed_393 : decode cL_deed 393 = .ok (.iand, 1) := by decide +kernel
theorem dL_deed_394 : decode cL_deed 394 = .ok (.iload 4, 2) := by decide +kernel
theorem dL_deed_396 : decode cL_deed 396 = .ok (.bipush 31, 2) := by decide +kernel
theorem dL_deed_398 : decode cL_deed 398 = .ok (.isub, 1) := by decide +kernel
theorem dL_deed_399 : decode cL_deed 399 = .ok (.invokevirtual 71, 3) := by decide +kernel
theorem dL_deed_402 : decode cL_deed 402 = .ok (.pop, 1) := by decide +kernel
theorem dL_deed_403 : decode cL_deed 403 = .ok (.goto 55, 3) := by decide +kernel
theorem dL_deed_406 : decode cL_deed 406 = .ok (.aload_n 0, 1) := by decide +kernel
theorem dL_deed_407 : decode cL_deed 407 = .ok (.iload 5, 2) := by decide +kernel
theorem dL_deed_409 : decode cL_deed 409 = .ok (.iload_n 2, 1) := by decide +kernel
theorem dL_deed_410 : decode cL_deed 410 = .ok (.iload_n 3, 1) := by decide +kernel
theorem dL_deed_411 : decode cL_deed 411 = .ok (.iconst 1, 1) := by decide +kernel
theorem dL_deed_412 : decode cL_deed 412 = .ok (.iand, 1) := by decide +kernel
theorem dL_deed_413 : decode cL_deed 413 = .ok (.invokevirtual 74, 3) := by decide +kernel
theorem dL_deed_416 : decode cL_deed 416 = .ok (.pop, 1) := by decide +kernel
theorem dL_deed_417 : decode cL_deed 417 = .ok (.goto 41, 3) := by decide +kernel
theorem dL_deed_420 : decode cL_deed 420 = .ok (.aload_n 0, 1) := by decide +kernel
theorem dL_deed_421 : decode cL_deed 421 = .ok (.iload 5, 2) := by decide +kernel
theorem dL_deed_423 : decode cL_deed 423 = .ok (.invokevirtual 77, 3) := by decide +kernel
theorem dL_deed_426 : decode cL_deed 426 = .ok (.pop, 1) := by decide +kernel
theorem dL_deed_427 : decode cL_deed 427 = .ok (.goto 31, 3) := by decide +kernel
theorem dL_deed_430 : decode cL_deed 430 = .ok (.aload_n 0, 1) := by decide +kernel
theorem dL_deed_431 : decode cL_deed 431 = .ok (.invokevirtual 59, 3) := by decide +kernel
theorem dL_deed_434 : decode cL_deed 434 = .ok (.iconst 1, 1) := by decide +kernel
theorem dL_deed_435 : decode cL_deed 435 = .ok (.iadd, 1) := by decide +kernel
theorem dL_deed_436 : decode cL_deed 436 = .ok (.iload_n 3, 1) := by decide +kernel
theorem dL_deed_437 : decode cL_deed 437 = .ok (.bipush 30, 2) := by decide +kernel
theorem dL_deed_439 : decode cL_deed 439 = .ok (.irem, 1) := by decide +kernel
theorem dL_deed_440 : decode cL_deed 440 = .ok (.iadd, 1) := by decide +kernel
theorem dL_deed_441 : decode cL_deed 441 = .ok (.sipush 2000, 3) := by decide +kernel
theorem dL_deed_444 : decode cL_deed 444 = .ok (.if_icmp .gt 14, 3) := by decide +kernel
theorem dL_deed_447 : decode cL_deed 447 = .ok (.aload_n 0, 1) := by decide +kernel
theorem dL_deed_448 : decode cL_deed 448 = .ok (.iconst 1, 1) := by decide +kernel
theorem dL_deed_449 : decode cL_deed 449 = .ok (.iload_n 3, 1) := by decide +kernel
theorem dL_deed_450 : decode cL_deed 450 = .ok (.bipush 30, 2) := by decide +kernel
theorem dL_deed_452 : decode cL_deed 452 = .ok (.irem, 1) := by decide +kernel
theorem dL_deed_453 : decode cL_deed 453 = .ok (.iadd, 1) := by decide +kernel
theorem dL_deed_454 : decode cL_deed 454 = .ok (.invokevirtual 62, 3) := by decide +kernel
theorem dL_deed_457 : decode cL_deed 457 = .ok (.pop, 1) := by decide +kernel
theorem dL_deed_458 : decode cL_deed 458 = .ok (.return_, 1) := by decide +kernel
theorem dL_all_0 : decode cL_all 0 = .ok (.lconst 0, 1) := by decide +kernel
theorem dL_all_1 : decode cL_all 1 = .ok (.lstore_n 1, 1) := by decide +kernel
theorem dL_all_2 : decode cL_all 2 = .ok (.iconst 0, 1) := by decide +kernel
theorem dL_all_3 : decode cL_all 3 = .ok (.istore_n 3, 1) := by decide +kernel
theorem dL_all_4 : decode cL_all 4 = .ok (.iload_n 3, 1) := by decide +kernel
theorem dL_all_5 : decode cL_all 5 = .ok (.aload_n 0, 1) := by decide +kernel
theorem dL_all_6 : decode cL_all 6 = .ok (.invokevirtual 7, 3) := by decide +kernel
theorem dL_all_9 : decode cL_all 9 = .ok (.if_icmp .ge 18, 3) := by decide +kernel
theorem dL_all_12 : decode cL_all 12 = .ok (.lload_n 1, 1) := by decide +kernel
theorem dL_all_13 : decode cL_all 13 = .ok (.aload_n 0, 1) := by decide +kernel
theorem dL_all_14 : decode cL_all 14 = .ok (.iload_n 3, 1) := by decide +kernel
theorem dL_all_15 : decode cL_all 15 = .ok (.invokevirtual 80, 3) := by decide +kernel
theorem dL_all_18 : decode cL_all 18 = .ok (.i2l, 1) := by decide +kernel
theorem dL_all_19 : decode cL_all 19 = .ok (.ladd, 1) := by decide +kernel
theorem dL_all_20 : decode cL_all 20 = .ok (.lstore_n 1, 1) := by decide +kernel
theorem dL_all_21 : decode cL_all 21 = .ok (.iinc 3 1, 3) := by decide +kernel
theorem dL_all_24 : decode cL_all 24 = .ok (.goto (-20), 3) := by decide +kernel
theorem dL_all_27 : decode cL_all 27 = .ok (.lload_n 1, 1) := by decide +kernel
theorem dL_all_28 : decode cL_all 28 = .ok (.lreturn, 1) := by decide +kernel
theorem dL_leaf_0 : decode cL_leaf 0 = .ok (.aload_n 0, 1) := by decide +kernel
theorem dL_leaf_1 : decode cL_leaf 1 = .ok (.invokevirtual 83, 3) := by decide +kernel
theorem dL_leaf_4 : decode cL_leaf 4 = .ok (.aload_n 0, 1) := by decide +kernel
theorem dL_leaf_5 : decode cL_leaf 5 = .ok (.invokevirtual 86, 3) := by decide +kernel
theorem dL_leaf_8 : decode cL_leaf 8 = .ok (.iadd, 1) := by decide +kernel
theorem dL_leaf_9 : decode cL_leaf 9 = .ok (.istore_n 1, 1) := by decide +kernel
theorem dL_leaf_10 : decode cL_leaf 10 = .ok (.iconst 0, 1) := by decide +kernel
theorem dL_leaf_11 : decode cL_leaf 11 = .ok (.istore_n 2, 1) := by decide +kernel
theorem dL_leaf_12 : decode cL_leaf 12 = .ok (.iload_n 2, 1) := by decide +kernel
theorem dL_leaf_13 : decode cL_leaf 13 = .ok (.aload_n 0, 1) := by decide +kernel
theorem dL_leaf_14 : decode cL_leaf 14 = .ok (.invokevirtual 7, 3) := by decide +kernel
theorem dL_leaf_17 : decode cL_leaf 17 = .ok (.if_icmp .ge 17, 3) := by decide +kernel
theorem dL_leaf_20 : decode cL_leaf 20 = .ok (.iload_n 1, 1) := by decide +kernel
theorem dL_leaf_21 : decode cL_leaf 21 = .ok (.aload_n 0, 1) := by decide +kernel
theorem dL_leaf_22 : decode cL_leaf 22 = .ok (.iload_n 2, 1) := by decide +kernel
theorem dL_leaf_23 : decode cL_leaf 23 = .ok (.invokevirtual 16, 3) := by decide +kernel
theorem dL_leaf_26 : decode cL_leaf 26 = .ok (.iadd, 1) := by decide +kernel
theorem dL_leaf_27 : decode cL_leaf 27 = .ok (.istore_n 1, 1) := by decide +kernel
theorem dL_leaf_28 : decode cL_leaf 28 = .ok (.iinc 2 1, 3) := by decide +kernel
theorem dL_leaf_31 : decode cL_leaf 31 = .ok (.goto (-19), 3) := by decide +kernel
theorem dL_leaf_34 : decode cL_leaf 34 = .ok (.iload_n 1, 1) := by decide +kernel
theorem dL_leaf_35 : decode cL_leaf 35 = .ok (.ireturn, 1) := by decide +kernel
theorem dL_holds_0 : decode cL_holds 0 = .ok (.aload_n 0, 1) := by decide +kernel
theorem dL_holds_1 : decode cL_holds 1 = .ok (.invokevirtual 89, 3) := by decide +kernel
theorem dL_holds_4 : decode cL_holds 4 = .ok (.ifCond .ne 41, 3) := by decide +kernel
theorem dL_holds_7 : decode cL_holds 7 = .ok (.aload_n 0, 1) := by decide +kernel
theorem dL_holds_8 : decode cL_holds 8 = .ok (.invokevirtual 59, 3) := by decide +kernel
theorem dL_holds_11 : decode cL_holds 11 = .ok (.ifCond .lt 34, 3) := by decide +kernel
theorem dL_holds_14 : decode cL_holds 14 = .ok (.aload_n 0, 1) := by decide +kernel
theorem dL_holds_15 : decode cL_holds 15 = .ok (.invokevirtual 59, 3) := by decide +kernel
theorem dL_holds_18 : decode cL_holds 18 = .ok (.sipush 2000, 3) := by decide +kernel
theorem dL_holds_21 : decode cL_holds 21 = .ok (.if_icmp .gt 24, 3) := by decide +kernel
theorem dL_holds_24 : decode cL_holds 24 = .ok (.aload_n 0, 1) := by decide +kernel
theorem dL_holds_25 : decode cL_holds 25 = .ok (.invokevirtual 92, 3) := by decide +kernel
theorem dL_holds_28 : decode cL_holds 28 = .ok (.aload_n 0, 1) := by decide +kernel
theorem dL_holds_29 : decode cL_holds 29 = .ok (.invokevirtual 59, 3) := by decide +kernel
theorem dL_holds_32 : decode cL_holds 32 = .ok (.bipush 24, 2) := by decide +kernel
theorem dL_holds_34 : decode cL_holds 34 = .ok (.idiv, 1) := by decide +kernel
theorem dL_holds_35 : decode cL_holds 35 = .ok (.if_icmp .ne 10, 3) := by decide +kernel
theorem dL_holds_38 : decode cL_holds 38 = .ok (.aload_n 0, 1) := by decide +kernel
theorem dL_holds_39 : decode cL_holds 39 = .ok (.invokevirtual 95, 3) := by decide +kernel
theorem dL_holds_42 : decode cL_holds 42 = .ok (.ifCond .ge 5, 3) := by decide +kernel
theorem dL_holds_45 : decode cL_holds 45 = .ok (.iconst 0, 1) := by decide +kernel
theorem dL_holds_46 : decode cL_holds 46 = .ok (.ireturn, 1) := by decide +kernel
theorem dL_holds_47 : decode cL_holds 47 = .ok (.iconst 0, 1) := by decide +kernel
theorem dL_holds_48 : decode cL_holds 48 = .ok (.istore_n 1, 1) := by decide +kernel
theorem dL_holds_49 : decode cL_holds 49 = .ok (.iload_n 1, 1) := by decide +kernel
theorem dL_holds_50 : decode cL_holds 50 = .ok (.aload_n 0, 1) := by decide +kernel
theorem dL_holds_51 : decode cL_holds 51 = .ok (.invokevirtual 7, 3) := by decide +kernel
theorem dL_holds_54 : decode cL_holds 54 = .ok (.if_icmp .ge 315, 3) := by decide +kernel
theorem dL_holds_57 : decode cL_holds 57 = .ok (.aload_n 0, 1) := by decide +kernel
theorem dL_holds_58 : decode cL_holds 58 = .ok (.iload_n 1, 1) := by decide +kernel
theorem dL_holds_59 : decode cL_holds 59 = .ok (.invokevirtual 16, 3) := by decide +kernel
theorem dL_holds_62 : decode cL_holds 62 = .ok (.ifCond .ne 7, 3) := by decide +kernel
theorem dL_holds_65 : decode cL_holds 65 = .ok (.iconst 1, 1) := by decide +kernel
theorem dL_holds_66 : decode cL_holds 66 = .ok (.goto 4, 3) := by decide +kernel
theorem dL_holds_69 : decode cL_holds 69 = .ok (.iconst 0, 1) := by decide +kernel
theorem dL_holds_70 : decode cL_holds 70 = .ok (.istore_n 2, 1) := by decide +kernel
theorem dL_holds_71 : decode cL_holds 71 = .ok (.aload_n 0, 1) := by decide +kernel
theorem dL_holds_72 : decode cL_holds 72 = .ok (.iload_n 1, 1) := by decide +kernel
theorem dL_holds_73 : decode cL_holds 73 = .ok (.invokevirtual 16, 3) := by decide +kernel
theorem dL_holds_76 : decode cL_holds 76 = .ok (.aload_n 0, 1) := by decide +kernel
theorem dL_holds_77 : decode cL_holds 77 = .ok (.iload_n 1, 1) := by decide +kernel
theorem dL_holds_78 : decode cL_holds 78 = .ok (.invokevirtual 20, 3) := by decide +kernel
theorem dL_holds_81 : decode cL_holds 81 = .ok (.if_icmp .gt 25, 3) := by decide +kernel
theorem dL_holds_84 : decode cL_holds 84 = .ok (.aload_n 0, 1) := by decide +kernel
theorem dL_holds_85 : decode cL_holds 85 = .ok (.iload_n 1, 1) := by decide +kernel
theorem dL_holds_86 : decode cL_holds 86 = .ok (.invokevirtual 98, 3) := by decide +kernel
theorem dL_holds_89 : decode cL_holds 89 = .ok (.aload_n 0, 1) := by decide +kernel
theorem dL_holds_90 : decode cL_holds 90 = .ok (.iload_n 1, 1) := by decide +kernel
theorem dL_holds_91 : decode cL_holds 91 = .ok (.invokevirtual 16, 3) := by decide +kernel
theorem dL_holds_94 : decode cL_holds 94 = .ok (.bipush 100, 2) := by decide +kernel
theorem dL_holds_96 : decode cL_holds 96 = .ok (.imul, 1) := by decide +kernel
theorem dL_holds_97 : decode cL_holds 97 = .ok (.aload_n 0, 1) := by decide +kernel
theorem dL_holds_98 : decode cL_holds 98 = .ok (.iload_n 1, 1) := by decide +kernel
theorem dL_holds_99 : decode cL_holds 99 = .ok (.invokevirtual 20, 3) := by decide +kernel
theorem dL_holds_102 : decode cL_holds 102 = .ok (.idiv, 1) := by decide +kernel
theorem dL_holds_103 : decode cL_holds 103 = .ok (.if_icmp .eq 5, 3) := by decide +kernel
theorem dL_holds_106 : decode cL_holds 106 = .ok (.iconst 0, 1) := by decide +kernel
theorem dL_holds_107 : decode cL_holds 107 = .ok (.ireturn, 1) := by decide +kernel
theorem dL_holds_108 : decode cL_holds 108 = .ok (.iload_n 2, 1) := by decide +kernel
theorem dL_holds_109 : decode cL_holds 109 = .ok (.ifCond .eq 78, 3) := by decide +kernel
theorem dL_holds_112 : decode cL_holds 112 = .ok (.aload_n 0, 1) := by decide +kernel
theorem dL_holds_113 : decode cL_holds 113 = .ok (.iload_n 1, 1) := by decide +kernel
theorem dL_holds_114 : decode cL_holds 114 = .ok (.iconst 0, 1) := by decide +kernel
theorem dL_holds_115 : decode cL_holds 115 = .ok (.invokevirtual 101, 3) := by decide +kernel
theorem dL_holds_118 : decode cL_holds 118 = .ok (.iconst (-1), 1) := by decide +kernel
theorem dL_holds_119 : decode cL_holds 119 = .ok (.if_icmp .ne 66, 3) := by decide +kernel
theorem dL_holds_122 : decode cL_holds 122 = .ok (.aload_n 0, 1) := by decide +kernel
theorem dL_holds_123 : decode cL_holds 123 = .ok (.iload_n 1, 1) := by decide +kernel
theorem dL_holds_124 : decode cL_holds 124 = .ok (.iconst 1, 1) := by decide +kernel
theorem dL_holds_125 : decode cL_holds 125 = .ok (.invokevirtual 101, 3) := by decide +kernel
theorem dL_holds_128 : decode cL_holds 128 = .ok (.iconst (-1), 1) := by decide +kernel
theorem dL_holds_129 : decode cL_holds 129 = .ok (.if_icmp .ne 56, 3) := by decide +kernel
theorem dL_holds_132 : decode cL_holds 132 = .ok (.aload_n 0, 1) := by decide +kernel
theorem dL_holds_133 : decode cL_holds 133 = .ok (.iload_n 1, 1) := by decide +kernel
theorem dL_holds_134 : decode cL_holds 134 = .ok (.invokevirtual 104, 3) := by decide +kernel
theorem dL_holds_137 : decode cL_holds 137 = .ok (.iconst (-1), 1) := by decide +kernel
theorem dL_holds_138 : decode cL_holds 138 = .ok (.if_icmp .ne 47, 3) := by decide +kernel
theorem dL_holds_141 : decode cL_holds 141 = .ok (.aload_n 0, 1) := by decide +kernel
theorem dL_holds_142 : decode cL_holds 142 = .ok (.iload_n 1, 1) := by decide +kernel
theorem dL_holds_143 : decode cL_holds 143 = .ok (.invokevirtual 107, 3) := by decide +kernel
theorem dL_holds_146 : decode cL_holds 146 = .ok (.iconst (-1), 1) := by decide +kernel
theorem dL_holds_147 : decode cL_holds 147 = .ok (.if_icmp .ne 38, 3) := by decide +kernel
theorem dL_holds_150 : decode cL_holds 150 = .ok (.aload_n 0, 1) := by decide +kernel
theorem dL_holds_151 : decode cL_holds 151 = .ok (.iload_n 1, 1) := by decide +kernel
theorem dL_holds_152 : decode cL_holds 152 = .ok (.invokevirtual 110, 3) := by decide +kernel
theorem dL_holds_155 : decode cL_holds 155 = .ok (.iconst (-1), 1) := by decide +kernel
theorem dL_holds_156 : decode cL_holds 156 = .ok (.if_icmp .ne 29, 3) := by decide +kernel
theorem dL_holds_159 : decode cL_holds 159 = .ok (.aload_n 0, 1) := by decide +kernel
theorem dL_holds_160 : decode cL_holds 160 = .ok (.iload_n 1, 1) := by decide +kernel
theorem dL_holds_161 : decode cL_holds 161 = .ok (.invokevirtual 113, 3) := by decide +kernel
theorem dL_holds_164 : decode cL_holds 164 = .ok (.iconst (-1), 1) := by decide +kernel
theorem dL_holds_165 : decode cL_holds 165 = .ok (.if_icmp .ne 20, 3) := by decide +kernel
theorem dL_holds_168 : decode cL_holds 168 = .ok (.aload_n 0, 1) := by decide +kernel
theorem dL_holds_169 : decode cL_holds 169 = .ok (.iload_n 1, 1) := by decide +kernel
theorem dL_holds_170 : decode cL_holds 170 = .ok (.invokevirtual 80, 3) := by decide +kernel
theorem dL_holds_173 : decode cL_holds 173 = .ok (.ifCond .ne 12, 3) := by decide +kernel
theorem dL_holds_176 : decode cL_holds 176 = .ok (.aload_n 0, 1) := by decide +kernel
theorem dL_holds_177 : decode cL_holds 177 = .ok (.iload_n 1, 1) := by decide +kernel
theorem dL_holds_178 : decode cL_holds 178 = .ok (.invokevirtual 50, 3) := by decide +kernel
theorem dL_holds_181 : decode cL_holds 181 = .ok (.iconst 1, 1) := by decide +kernel
theorem dL_holds_182 : decode cL_holds 182 = .ok (.if_icmp .eq 181, 3) := by decide +kernel
theorem dL_holds_185 : decode cL_holds 185 = .ok (.iconst 0, 1) := by decide +kernel
theorem dL_holds_186 : decode cL_holds 186 = .ok (.ireturn, 1) := by decide +kernel
theorem dL_holds_187 : decode cL_holds 187 = .ok (.aload_n 0, 1) := by decide +kernel
theorem dL_holds_188 : decode cL_holds 188 = .ok (.iload_n 1, 1) := by decide +kernel
theorem dL_holds_189 : decode cL_holds 189 = .ok (.iconst 0, 1) := by decide +kernel
theorem dL_holds_190 : decode cL_holds 190 = .ok (.invokevirtual 101, 3) := by decide +kernel
theorem dL_holds_193 : decode cL_holds 193 = .ok (.istore_n 3, 1) := by decide +kernel
theorem dL_holds_194 : decode cL_holds 194 = .ok (.aload_n 0, 1) := by decide +kernel
theorem dL_holds_195 : decode cL_holds 195 = .ok (.iload_n 1, 1) := by decide +kernel
theorem dL_holds_196 : decode cL_holds 196 = .ok (.iconst 1, 1) := by decide +kernel
theorem dL_holds_197 : decode cL_holds 197 = .ok (.invokevirtual 101, 3) := by decide +kernel
theorem dL_holds_200 : decode cL_holds 200 = .ok (.istore 4, 2) := by decide +kernel
theorem dL_holds_202 : decode cL_holds 202 = .ok (.iload_n 3, 1) := by decide +kernel
theorem dL_holds_203 : decode cL_holds 203 = .ok (.sipush 300, 3) := by decide +kernel
theorem dL_holds_206 : decode cL_holds 206 = .ok (.if_icmp .lt 67, 3) := by decide +kernel
theorem dL_holds_209 : decode cL_holds 209 = .ok (.iload_n 3, 1) := by decide +kernel
theorem dL_holds_210 : decode cL_holds 210 = .ok (.sipush 900, 3) := by decide +kernel
theorem dL_holds_213 : decode cL_holds 213 = .ok (.if_icmp .gt 60, 3) := by decide +kernel
theorem dL_holds_216 : decode cL_holds 216 = .ok (.iload 4, 2) := by decide +kernel
theorem dL_holds_218 : decode cL_holds 218 = .ok (.sipush 300, 3) := by decide +kernel
theorem dL_holds_221 : decode cL_holds 221 = .ok (.if_icmp .lt 52, 3) := by decide +kernel
theorem dL_holds_224 : decode cL_holds 224 = .ok (.iload 4, 2) := by decide +kernel
theorem dL_holds_226 : decode cL_holds 226 = .ok (.sipush 900, 3) := by decide +kernel
theorem dL_holds_229 : decode cL_holds 229 = .ok (.if_icmp .gt 44, 3) := by decide +kernel
theorem dL_holds_232 : decode cL_holds 232 = .ok (.aload_n 0, 1) := by decide +kernel
theorem dL_holds_233 : decode cL_holds 233 = .ok (.iload_n 1, 1) := by decide +kernel
theorem dL_holds_234 : decode cL_holds 234 = .ok (.invokevirtual 104, 3) := by decide +kernel
theorem dL_holds_237 : decode cL_holds 237 = .ok (.iload_n 3, 1) := by decide +kernel
theorem dL_holds_238 : decode cL_holds 238 = .ok (.iload 4, 2) := by decide +kernel
theorem dL_holds_240 : decode cL_holds 240 = .ok (.isub, 1) := by decide +kernel
theorem dL_holds_241 : decode cL_holds 241 = .ok (.invokestatic 116, 3) := by decide +kernel
theorem dL_holds_244 : decode cL_holds 244 = .ok (.if_icmp .ne 29, 3) := by decide +kernel
theorem dL_holds_247 : decode cL_holds 247 = .ok (.aload_n 0, 1) := by decide +kernel
theorem dL_holds_248 : decode cL_holds 248 = .ok (.iload_n 1, 1) := by decide +kernel
theorem dL_holds_249 : decode cL_holds 249 = .ok (.invokevirtual 107, 3) := by decide +kernel
theorem dL_holds_252 : decode cL_holds 252 = .ok (.ifCond .lt 21, 3) := by decide +kernel
theorem dL_holds_255 : decode cL_holds 255 = .ok (.aload_n 0, 1) := by decide +kernel
theorem dL_holds_256 : decode cL_holds 256 = .ok (.iload_n 1, 1) := by decide +kernel
theorem dL_holds_257 : decode cL_holds 257 = .ok (.invokevirtual 107, 3) := by decide +kernel
theorem dL_holds_260 : decode cL_holds 260 = .ok (.bipush 20, 2) := by decide +kernel
theorem dL_holds_262 : decode cL_holds 262 = .ok (.if_icmp .gt 11, 3) := by decide +kernel
theorem dL_holds_265 : decode cL_holds 265 = .ok (.aload_n 0, 1) := by decide +kernel
theorem dL_holds_266 : decode cL_holds 266 = .ok (.iload_n 1, 1) := by decide +kernel
theorem dL_holds_267 : decode cL_holds 267 = .ok (.invokevirtual 110, 3) := by decide +kernel
theorem dL_holds_270 : decode cL_holds 270 = .ok (.ifCond .ge 5, 3) := by decide +kernel
theorem dL_holds_273 : decode cL_holds 273 = .ok (.iconst 0, 1) := by decide +kernel
theorem dL_holds_274 : decode cL_holds 274 = .ok (.ireturn, 1) := by decide +kernel
theorem dL_holds_275 : decode cL_holds 275 = .ok (.aload_n 0, 1) := by decide +kernel
theorem dL_holds_276 : decode cL_holds 276 = .ok (.iload_n 1, 1) := by decide +kernel
theorem dL_holds_277 : decode cL_holds 277 = .ok (.invokevirtual 113, 3) := by decide +kernel
theorem dL_holds_280 : decode cL_holds 280 = .ok (.iconst 0, 1) := by decide +kernel
theorem dL_holds_281 : decode cL_holds 281 = .ok (.bipush 100, 2) := by decide +kernel
theorem dL_holds_283 : decode cL_holds 283 = .ok (.aload_n 0, 1) := by decide +kernel
theorem dL_holds_284 : decode cL_holds 284 = .ok (.iload_n 1, 1) := by decide +kernel
theorem dL_holds_285 : decode cL_holds 285 = .ok (.invokevirtual 104, 3) := by decide +kernel
theorem dL_holds_288 : decode cL_holds 288 = .ok (.isub, 1) := by decide +kernel
theorem dL_holds_289 : decode cL_holds 289 = .ok (.iconst 2, 1) := by decide +kernel
theorem dL_holds_290 : decode cL_holds 290 = .ok (.aload_n 0, 1) := by decide +kernel
theorem dL_holds_291 : decode cL_holds 291 = .ok (.iload_n 1, 1) := by decide +kernel
theorem dL_holds_292 : decode cL_holds 292 = .ok (.invokevirtual 110, 3) := by decide +kernel
theorem dL_holds_295 : decode cL_holds 295 = .ok (.imul, 1) := by decide +kernel
theorem dL_holds_296 : decode cL_holds 296 = .ok (.isub, 1) := by decide +kernel
theorem dL_holds_297 : decode cL_holds 297 = .ok (.invokestatic 121, 3) := by decide +kernel
theorem dL_holds_300 : decode cL_holds 300 = .ok (.if_icmp .ne 61, 3) := by decide +kernel
theorem dL_holds_303 : decode cL_holds 303 = .ok (.aload_n 0, 1) := by decide +kernel
theorem dL_holds_304 : decode cL_holds 304 = .ok (.iload_n 1, 1) := by decide +kernel
theorem dL_holds_305 : decode cL_holds 305 = .ok (.invokevirtual 80, 3) := by decide +kernel
theorem dL_holds_308 : decode cL_holds 308 = .ok (.ifCond .lt 53, 3) := by decide +kernel
theorem dL_holds_311 : decode cL_holds 311 = .ok (.aload_n 0, 1) := by decide +kernel
theorem dL_holds_312 : decode cL_holds 312 = .ok (.iload_n 1, 1) := by decide +kernel
theorem dL_holds_313 : decode cL_holds 313 = .ok (.invokevirtual 80, 3) := by decide +kernel
theorem dL_holds_316 : decode cL_holds 316 = .ok (.sipush 2000, 3) := by decide +kernel
theorem dL_holds_319 : decode cL_holds 319 = .ok (.aload_n 0, 1) := by decide +kernel
theorem dL_holds_320 : decode cL_holds 320 = .ok (.iload_n 1, 1) := by decide +kernel
theorem dL_holds_321 : decode cL_holds 321 = .ok (.invokevirtual 16, 3) := by decide +kernel
theorem dL_holds_324 : decode cL_holds 324 = .ok (.imul, 1) := by decide +kernel
theorem dL_holds_325 : decode cL_holds 325 = .ok (.if_icmp .gt 36, 3) := by decide +kernel
theorem dL_holds_328 : decode cL_holds 328 = .ok (.aload_n 0, 1) := by decide +kernel
theorem dL_holds_329 : decode cL_holds 329 = .ok (.iload_n 1, 1) := by decide +kernel
theorem dL_holds_330 : decode cL_holds 330 = .ok (.invokevirtual 50, 3) := by decide +kernel
theorem dL_holds_333 : decode cL_holds 333 = .ok (.ifCond .ne 7, 3) := by decide +kernel
theorem dL_holds_336 : decode cL_holds 336 = .ok (.iconst 1, 1) := by decide +kernel
theorem dL_holds_337 : decode cL_holds 337 = .ok (.goto 4, 3) := by decide +kernel
theorem dL_holds_340 : decode cL_holds 340 = .ok (.iconst 0, 1) := by decide +kernel
theorem dL_holds_341 : decode cL_holds 341 = .ok (.aload_n 0, 1) := by decide +kernel
theorem dL_holds_342 : decode cL_holds 342 = .ok (.invokevirtual 124, 3) := by decide +kernel
theorem dL_holds_345 : decode cL_holds 345 = .ok (.iload_n 1, 1) := by decide +kernel
theorem dL_holds_346 : decode cL_holds 346 = .ok (.ishr, 1) := by decide +kernel
theorem dL_holds_347 : decode cL_holds 347 = .ok (.iconst 1, 1) := by decide +kernel
theorem dL_holds_348 : decode cL_holds 348 = .ok (.iand, 1) := by decide +kernel
theorem dL_holds_349 : decode cL_holds 349 = .ok (.iconst 1, 1) := by decide +kernel
theorem dL_holds_350 : decode cL_holds 350 = .ok (.if_icmp .ne 7, 3) := by decide +kernel
theorem dL_holds_353 : decode cL_holds 353 = .ok (.iconst 1, 1) := by decide +kernel
theorem dL_holds_354 : decode cL_holds 354 = .ok (.goto 4, 3) := by decide +kernel
theorem dL_holds_357 : decode cL_holds 357 = .ok (.iconst 0, 1) := by decide +kernel
theorem dL_holds_358 : decode cL_holds 358 = .ok (.if_icmp .eq 5, 3) := by decide +kernel
theorem dL_holds_361 : decode cL_holds 361 = .ok (.iconst 0, 1) := by decide +kernel
theorem dL_holds_362 : decode cL_holds 362 = .ok (.ireturn, 1) := by decide +kernel
theorem dL_holds_363 : decode cL_holds 363 = .ok (.iinc 1 1, 3) := by decide +kernel
theorem dL_holds_366 : decode cL_holds 366 = .ok (.goto (-317), 3) := by decide +kernel
theorem dL_holds_369 : decode cL_holds 369 = .ok (.iconst 1, 1) := by decide +kernel
theorem dL_holds_370 : decode cL_holds 370 = .ok (.ireturn, 1) := by decide +kernel
theorem dL_sum_0 : decode cL_sum 0 = .ok (.aload_n 0, 1) := by decide +kernel
theorem dL_sum_1 : decode cL_sum 1 = .ok (.invokevirtual 59, 3) := by decide +kernel
theorem dL_sum_4 : decode cL_sum 4 = .ok (.i2l, 1) := by decide +kernel
theorem dL_sum_5 : decode cL_sum 5 = .ok (.ldc2_w 127, 3) := by decide +kernel
theorem dL_sum_8 : decode cL_sum 8 = .ok (.aload_n 0, 1) := by decide +kernel
theorem dL_sum_9 : decode cL_sum 9 = .ok (.invokevirtual 129, 3) := by decide +kernel
theorem dL_sum_12 : decode cL_sum 12 = .ok (.i2l, 1) := by decide +kernel
theorem dL_sum_13 : decode cL_sum 13 = .ok (.lmul, 1) := by decide +kernel
theorem dL_sum_14 : decode cL_sum 14 = .ok (.ladd, 1) := by decide +kernel
theorem dL_sum_15 : decode cL_sum 15 = .ok (.ldc2_w 132, 3) := by decide +kernel
theorem dL_sum_18 : decode cL_sum 18 = .ok (.aload_n 0, 1) := by decide +kernel
theorem dL_sum_19 : decode cL_sum 19 = .ok (.invokevirtual 95, 3) := by decide +kernel
theorem dL_sum_22 : decode cL_sum 22 = .ok (.i2l, 1) := by decide +kernel
theorem dL_sum_23 : decode cL_sum 23 = .ok (.lmul, 1) := by decide +kernel
theorem dL_sum_24 : decode cL_sum 24 = .ok (.ladd, 1) := by decide +kernel
theorem dL_sum_25 : decode cL_sum 25 = .ok (.ldc2_w 134, 3) := by decide +kernel
theorem dL_sum_28 : decode cL_sum 28 = .ok (.aload_n 0, 1) := by decide +kernel
theorem dL_sum_29 : decode cL_sum 29 = .ok (.invokevirtual 136, 3) := by decide +kernel
theorem dL_sum_32 : decode cL_sum 32 = .ok (.i2l, 1) := by decide +kernel
theorem dL_sum_33 : decode cL_sum 33 = .ok (.lmul, 1) := by decide +kernel
theorem dL_sum_34 : decode cL_sum 34 = .ok (.ladd, 1) := by decide +kernel
theorem dL_sum_35 : decode cL_sum 35 = .ok (.ldc2_w 139, 3) := by decide +kernel
theorem dL_sum_38 : decode cL_sum 38 = .ok (.aload_n 0, 1) := by decide +kernel
theorem dL_sum_39 : decode cL_sum 39 = .ok (.invokevirtual 83, 3) := by decide +kernel
theorem dL_sum_42 : decode cL_sum 42 = .ok (.i2l, 1) := by decide +kernel
theorem dL_sum_43 : decode cL_sum 43 = .ok (.lmul, 1) := by decide +kernel
theorem dL_sum_44 : decode cL_sum 44 = .ok (.ladd, 1) := by decide +kernel
theorem dL_sum_45 : decode cL_sum 45 = .ok (.ldc2_w 141, 3) := by decide +kernel
theorem dL_sum_48 : decode cL_sum 48 = .ok (.aload_n 0, 1) := by decide +kernel
theorem dL_sum_49 : decode cL_sum 49 = .ok (.invokevirtual 86, 3) := by decide +kernel
theorem dL_sum_52 : decode cL_sum 52 = .ok (.i2l, 1) := by decide +kernel
theorem dL_sum_53 : decode cL_sum 53 = .ok (.lmul, 1) := by decide +kernel
theorem dL_sum_54 : decode cL_sum 54 = .ok (.ladd, 1) := by decide +kernel
theorem dL_sum_55 : decode cL_sum 55 = .ok (.ldc2_w 143, 3) := by decide +kernel
theorem dL_sum_58 : decode cL_sum 58 = .ok (.aload_n 0, 1) := by decide +kernel
theorem dL_sum_59 : decode cL_sum 59 = .ok (.invokevirtual 145, 3) := by decide +kernel
theorem dL_sum_62 : decode cL_sum 62 = .ok (.i2l, 1) := by decide +kernel
theorem dL_sum_63 : decode cL_sum 63 = .ok (.lmul, 1) := by decide +kernel
theorem dL_sum_64 : decode cL_sum 64 = .ok (.ladd, 1) := by decide +kernel
theorem dL_sum_65 : decode cL_sum 65 = .ok (.lstore_n 1, 1) := by decide +kernel
theorem dL_sum_66 : decode cL_sum 66 = .ok (.iconst 0, 1) := by decide +kernel
theorem dL_sum_67 : decode cL_sum 67 = .ok (.istore_n 3, 1) := by decide +kernel
theorem dL_sum_68 : decode cL_sum 68 = .ok (.iload_n 3, 1) := by decide +kernel
theorem dL_sum_69 : decode cL_sum 69 = .ok (.aload_n 0, 1) := by decide +kernel
theorem dL_sum_70 : decode cL_sum 70 = .ok (.invokevirtual 7, 3) := by decide +kernel
theorem dL_sum_73 : decode cL_sum 73 = .ok (.if_icmp .ge 115, 3) := by decide +kernel
theorem dL_sum_76 : decode cL_sum 76 = .ok (.ldc2_w 148, 3) := by decide +kernel
theorem dL_sum_79 : decode cL_sum 79 = .ok (.lload_n 1, 1) := by decide +kernel
theorem dL_sum_80 : decode cL_sum 80 = .ok (.lmul, 1) := by decide +kernel
theorem dL_sum_81 : decode cL_sum 81 = .ok (.aload_n 0, 1) := by decide +kernel
theorem dL_sum_82 : decode cL_sum 82 = .ok (.iload_n 3, 1) := by decide +kernel
theorem dL_sum_83 : decode cL_sum 83 = .ok (.invokevirtual 16, 3) := by decide +kernel
theorem dL_sum_86 : decode cL_sum 86 = .ok (.i2l, 1) := by decide +kernel
theorem dL_sum_87 : decode cL_sum 87 = .ok (.ladd, 1) := by decide +kernel
theorem dL_sum_88 : decode cL_sum 88 = .ok (.ldc2_w 150, 3) := by decide +kernel
theorem dL_sum_91 : decode cL_sum 91 = .ok (.aload_n 0, 1) := by decide +kernel
theorem dL_sum_92 : decode cL_sum 92 = .ok (.iload_n 3, 1) := by decide +kernel
theorem dL_sum_93 : decode cL_sum 93 = .ok (.invokevirtual 20, 3) := by decide +kernel
theorem dL_sum_96 : decode cL_sum 96 = .ok (.i2l, 1) := by decide +kernel
theorem dL_sum_97 : decode cL_sum 97 = .ok (.lmul, 1) := by decide +kernel
theorem dL_sum_98 : decode cL_sum 98 = .ok (.ladd, 1) := by decide +kernel
theorem dL_sum_99 : decode cL_sum 99 = .ok (.ldc2_w 152, 3) := by decide +kernel
theorem dL_sum_102 : decode cL_sum 102 = .ok (.aload_n 0, 1) := by decide +kernel
theorem dL_sum_103 : decode cL_sum 103 = .ok (.iload_n 3, 1) := by decide +kernel
theorem dL_sum_104 : decode cL_sum 104 = .ok (.invokevirtual 41, 3) := by decide +kernel
theorem dL_sum_107 : decode cL_sum 107 = .ok (.i2l, 1) := by decide +kernel
theorem dL_sum_108 : decode cL_sum 108 = .ok (.lmul, 1) := by decide +kernel
theorem dL_sum_109 : decode cL_sum 109 = .ok (.ladd, 1) := by decide +kernel
theorem dL_sum_110 : decode cL_sum 110 = .ok (.aload_n 0, 1) := by decide +kernel
theorem dL_sum_111 : decode cL_sum 111 = .ok (.iload_n 3, 1) := by decide +kernel
theorem dL_sum_112 : decode cL_sum 112 = .ok (.invokevirtual 154, 3) := by decide +kernel
theorem dL_sum_115 : decode cL_sum 115 = .ok (.ifCond .eq 9, 3) := by decide +kernel
theorem dL_sum_118 : decode cL_sum 118 = .ok (.ldc2_w 157, 3) := by decide +kernel
theorem dL_sum_121 : decode cL_sum 121 = .ok (.goto 4, 3) := by decide +kernel
theorem dL_sum_124 : decode cL_sum 124 = .ok (.lconst 0, 1) := by decide +kernel
theorem dL_sum_125 : decode cL_sum 125 = .ok (.ladd, 1) := by decide +kernel
theorem dL_sum_126 : decode cL_sum 126 = .ok (.lstore_n 1, 1) := by decide +kernel
theorem dL_sum_127 : decode cL_sum 127 = .ok (.ldc2_w 148, 3) := by decide +kernel
theorem dL_sum_130 : decode cL_sum 130 = .ok (.lload_n 1, 1) := by decide +kernel
theorem dL_sum_131 : decode cL_sum 131 = .ok (.lmul, 1) := by decide +kernel
theorem dL_sum_132 : decode cL_sum 132 = .ok (.aload_n 0, 1) := by decide +kernel
theorem dL_sum_133 : decode cL_sum 133 = .ok (.iload_n 3, 1) := by decide +kernel
theorem dL_sum_134 : decode cL_sum 134 = .ok (.iconst 0, 1) := by decide +kernel
theorem dL_sum_135 : decode cL_sum 135 = .ok (.invokevirtual 101, 3) := by decide +kernel
theorem dL_sum_138 : decode cL_sum 138 = .ok (.i2l, 1) := by decide +kernel
theorem dL_sum_139 : decode cL_sum 139 = .ok (.ladd, 1) := by decide +kernel
theorem dL_sum_140 : decode cL_sum 140 = .ok (.ldc2_w 150, 3) := by decide +kernel
theorem dL_sum_143 : decode cL_sum 143 = .ok (.aload_n 0, 1) := by decide +kernel
theorem dL_sum_144 : decode cL_sum 144 = .ok (.iload_n 3, 1) := by decide +kernel
theorem dL_sum_145 : decode cL_sum 145 = .ok (.iconst 1, 1) := by decide +kernel
theorem dL_sum_146 : decode cL_sum 146 = .ok (.invokevirtual 101, 3) := by decide +kernel
theorem dL_sum_149 : decode cL_sum 149 = .ok (.i2l, 1) := by decide +kernel
theorem dL_sum_150 : decode cL_sum 150 = .ok (.lmul, 1) := by decide +kernel
theorem dL_sum_151 : decode cL_sum 151 = .ok (.ladd, 1) := by decide +kernel
theorem dL_sum_152 : decode cL_sum 152 = .ok (.ldc2_w 159, 3) := by decide +kernel
theorem dL_sum_155 : decode cL_sum 155 = .ok (.aload_n 0, 1) := by decide +kernel
theorem dL_sum_156 : decode cL_sum 156 = .ok (.iload_n 3, 1) := by decide +kernel
theorem dL_sum_157 : decode cL_sum 157 = .ok (.invokevirtual 107, 3) := by decide +kernel
theorem dL_sum_160 : decode cL_sum 160 = .ok (.i2l, 1) := by decide +kernel
theorem dL_sum_161 : decode cL_sum 161 = .ok (.lmul, 1) := by decide +kernel
theorem dL_sum_162 : decode cL_sum 162 = .ok (.ladd, 1) := by decide +kernel
theorem dL_sum_163 : decode cL_sum 163 = .ok (.ldc2_w 132, 3) := by decide +kernel
theorem dL_sum_166 : decode cL_sum 166 = .ok (.aload_n 0, 1) := by decide +kernel
theorem dL_sum_167 : decode cL_sum 167 = .ok (.iload_n 3, 1) := by decide +kernel
theorem dL_sum_168 : decode cL_sum 168 = .ok (.invokevirtual 110, 3) := by decide +kernel
theorem dL_sum_171 : decode cL_sum 171 = .ok (.i2l, 1) := by decide +kernel
theorem dL_sum_172 : decode cL_sum 172 = .ok (.lmul, 1) := by decide +kernel
theorem dL_sum_173 : decode cL_sum 173 = .ok (.ladd, 1) := by decide +kernel
theorem dL_sum_174 : decode cL_sum 174 = .ok (.aload_n 0, 1) := by decide +kernel
theorem dL_sum_175 : decode cL_sum 175 = .ok (.iload_n 3, 1) := by decide +kernel
theorem dL_sum_176 : decode cL_sum 176 = .ok (.invokevirtual 80, 3) := by decide +kernel
theorem dL_sum_179 : decode cL_sum 179 = .ok (.i2l, 1) := by decide +kernel
theorem dL_sum_180 : decode cL_sum 180 = .ok (.ladd, 1) := by decide +kernel
theorem dL_sum_181 : decode cL_sum 181 = .ok (.lstore_n 1, 1) := by decide +kernel
theorem dL_sum_182 : decode cL_sum 182 = .ok (.iinc 3 1, 3) := by decide +kernel
theorem dL_sum_185 : decode cL_sum 185 = .ok (.goto (-117), 3) := by decide +kernel
theorem dL_sum_188 : decode cL_sum 188 = .ok (.iconst 0, 1) := by decide +kernel
theorem dL_sum_189 : decode cL_sum 189 = .ok (.istore_n 3, 1) := by decide +kernel
theorem dL_sum_190 : decode cL_sum 190 = .ok (.iload_n 3, 1) := by decide +kernel
theorem dL_sum_191 : decode cL_sum 191 = .ok (.aload_n 0, 1) := by decide +kernel
theorem dL_sum_192 : decode cL_sum 192 = .ok (.invokevirtual 13, 3) := by decide +kernel
theorem dL_sum_195 : decode cL_sum 195 = .ok (.if_icmp .ge 44, 3) := by decide +kernel
theorem dL_sum_198 : decode cL_sum 198 = .ok (.ldc2_w 148, 3) := by decide +kernel
theorem dL_sum_201 : decode cL_sum 201 = .ok (.lload_n 1, 1) := by decide +kernel
theorem dL_sum_202 : decode cL_sum 202 = .ok (.lmul, 1) := by decide +kernel
theorem dL_sum_203 : decode cL_sum 203 = .ok (.aload_n 0, 1) := by decide +kernel
theorem dL_sum_204 : decode cL_sum 204 = .ok (.iload_n 3, 1) := by decide +kernel
theorem dL_sum_205 : decode cL_sum 205 = .ok (.invokevirtual 161, 3) := by decide +kernel
theorem dL_sum_208 : decode cL_sum 208 = .ok (.i2l, 1) := by decide +kernel
theorem dL_sum_209 : decode cL_sum 209 = .ok (.ladd, 1) := by decide +kernel
theorem dL_sum_210 : decode cL_sum 210 = .ok (.ldc2_w 152, 3) := by decide +kernel
theorem dL_sum_213 : decode cL_sum 213 = .ok (.aload_n 0, 1) := by decide +kernel
theorem dL_sum_214 : decode cL_sum 214 = .ok (.iload_n 3, 1) := by decide +kernel
theorem dL_sum_215 : decode cL_sum 215 = .ok (.invokevirtual 164, 3) := by decide +kernel
theorem dL_sum_218 : decode cL_sum 218 = .ok (.i2l, 1) := by decide +kernel
theorem dL_sum_219 : decode cL_sum 219 = .ok (.lmul, 1) := by decide +kernel
theorem dL_sum_220 : decode cL_sum 220 = .ok (.ladd, 1) := by decide +kernel
theorem dL_sum_221 : decode cL_sum 221 = .ok (.ldc2_w 159, 3) := by decide +kernel
theorem dL_sum_224 : decode cL_sum 224 = .ok (.aload_n 0, 1) := by decide +kernel
theorem dL_sum_225 : decode cL_sum 225 = .ok (.iload_n 3, 1) := by decide +kernel
theorem dL_sum_226 : decode cL_sum 226 = .ok (.invokevirtual 167, 3) := by decide +kernel
theorem dL_sum_229 : decode cL_sum 229 = .ok (.i2l, 1) := by decide +kernel
theorem dL_sum_230 : decode cL_sum 230 = .ok (.lmul, 1) := by decide +kernel
theorem dL_sum_231 : decode cL_sum 231 = .ok (.ladd, 1) := by decide +kernel
theorem dL_sum_232 : decode cL_sum 232 = .ok (.lstore_n 1, 1) := by decide +kernel
theorem dL_sum_233 : decode cL_sum 233 = .ok (.iinc 3 1, 3) := by decide +kernel
theorem dL_sum_236 : decode cL_sum 236 = .ok (.goto (-46), 3) := by decide +kernel
theorem dL_sum_239 : decode cL_sum 239 = .ok (.ldc2_w 148, 3) := by decide +kernel
theorem dL_sum_242 : decode cL_sum 242 = .ok (.lload_n 1, 1) := by decide +kernel
theorem dL_sum_243 : decode cL_sum 243 = .ok (.lmul, 1) := by decide +kernel
theorem dL_sum_244 : decode cL_sum 244 = .ok (.aload_n 0, 1) := by decide +kernel
theorem dL_sum_245 : decode cL_sum 245 = .ok (.invokevirtual 124, 3) := by decide +kernel
theorem dL_sum_248 : decode cL_sum 248 = .ok (.i2l, 1) := by decide +kernel
theorem dL_sum_249 : decode cL_sum 249 = .ok (.ladd, 1) := by decide +kernel
theorem dL_sum_250 : decode cL_sum 250 = .ok (.lreturn, 1) := by decide +kernel
theorem dL_isWeighed_0 : decode cL_isWeighed 0 = .ok (.aload_n 0, 1) := by decide +kernel
theorem dL_isWeighed_1 : decode cL_isWeighed 1 = .ok (.invokevirtual 59, 3) := by decide +kernel
theorem dL_isWeighed_4 : decode cL_isWeighed 4 = .ok (.iload_n 1, 1) := by decide +kernel
theorem dL_isWeighed_5 : decode cL_isWeighed 5 = .ok (.iadd, 1) := by decide +kernel
theorem dL_isWeighed_6 : decode cL_isWeighed 6 = .ok (.sipush 2000, 3) := by decide +kernel
theorem dL_isWeighed_9 : decode cL_isWeighed 9 = .ok (.if_icmp .le 5, 3) := by decide +kernel
theorem dL_isWeighed_12 : decode cL_isWeighed 12 = .ok (.iconst 1, 1) := by decide +kernel
theorem dL_isWeighed_13 : decode cL_isWeighed 13 = .ok (.ireturn, 1) := by decide +kernel
theorem dL_isWeighed_14 : decode cL_isWeighed 14 = .ok (.aload_n 0, 1) := by decide +kernel
theorem dL_isWeighed_15 : decode cL_isWeighed 15 = .ok (.invokestatic 170, 3) := by decide +kernel
theorem dL_isWeighed_18 : decode cL_isWeighed 18 = .ok (.lstore_n 2, 1) := by decide +kernel
theorem dL_isWeighed_19 : decode cL_isWeighed 19 = .ok (.aload_n 0, 1) := by decide +kernel
theorem dL_isWeighed_20 : decode cL_isWeighed 20 = .ok (.invokevirtual 95, 3) := by decide +kernel
theorem dL_isWeighed_23 : decode cL_isWeighed 23 = .ok (.istore 4, 2) := by decide +kernel
theorem dL_isWeighed_25 : decode cL_isWeighed 25 = .ok (.aload_n 0, 1) := by decide +kernel
theorem dL_isWeighed_26 : decode cL_isWeighed 26 = .ok (.invokestatic 176, 3) := by decide +kernel
theorem dL_isWeighed_29 : decode cL_isWeighed 29 = .ok (.istore 5, 2) := by decide +kernel
theorem dL_isWeighed_31 : decode cL_isWeighed 31 = .ok (.aload_n 0, 1) := by decide +kernel
theorem dL_isWeighed_32 : decode cL_isWeighed 32 = .ok (.iload_n 1, 1) := by decide +kernel
theorem dL_isWeighed_33 : decode cL_isWeighed 33 = .ok (.invokevirtual 62, 3) := by decide +kernel
theorem dL_isWeighed_36 : decode cL_isWeighed 36 = .ok (.pop, 1) := by decide +kernel
theorem dL_isWeighed_37 : decode cL_isWeighed 37 = .ok (.lload_n 2, 1) := by decide +kernel
theorem dL_isWeighed_38 : decode cL_isWeighed 38 = .ok (.aload_n 0, 1) := by decide +kernel
theorem dL_isWeighed_39 : decode cL_isWeighed 39 = .ok (.invokestatic 170, 3) := by decide +kernel
theorem dL_isWeighed_42 : decode cL_isWeighed 42 = .ok (.lsub, 1) := by decide +kernel
theorem dL_isWeighed_43 : decode cL_isWeighed 43 = .ok (.aload_n 0, 1) := by decide +kernel
theorem dL_isWeighed_44 : decode cL_isWeighed 44 = .ok (.invokevirtual 95, 3) := by decide +kernel
theorem dL_isWeighed_47 : decode cL_isWeighed 47 = .ok (.iload 4, 2) := by decide +kernel
theorem dL_isWeighed_49 : decode cL_isWeighed 49 = .ok (.isub, 1) := by decide +kernel
theorem dL_isWeighed_50 : decode cL_isWeighed 50 = .ok (.i2l, 1) := by decide +kernel
theorem dL_isWeighed_51 : decode cL_isWeighed 51 = .ok (.lcmp, 1) := by decide +kernel
theorem dL_isWeighed_52 : decode cL_isWeighed 52 = .ok (.ifCond .ne 23, 3) := by decide +kernel
theorem dL_isWeighed_55 : decode cL_isWeighed 55 = .ok (.aload_n 0, 1) := by decide +kernel
theorem dL_isWeighed_56 : decode cL_isWeighed 56 = .ok (.invokestatic 176, 3) := by decide +kernel
theorem dL_isWeighed_59 : decode cL_isWeighed 59 = .ok (.iload 5, 2) := by decide +kernel
theorem dL_isWeighed_61 : decode cL_isWeighed 61 = .ok (.if_icmp .ne 14, 3) := by decide +kernel
theorem dL_isWeighed_64 : decode cL_isWeighed 64 = .ok (.aload_n 0, 1) := by decide +kernel
theorem dL_isWeighed_65 : decode cL_isWeighed 65 = .ok (.invokestatic 180, 3) := by decide +kernel
theorem dL_isWeighed_68 : decode cL_isWeighed 68 = .ok (.ifCond .eq 7, 3) := by decide +kernel
theorem dL_isWeighed_71 : decode cL_isWeighed 71 = .ok (.iconst 1, 1) := by decide +kernel
theorem dL_isWeighed_72 : decode cL_isWeighed 72 = .ok (.goto 4, 3) := by decide +kernel
theorem dL_isWeighed_75 : decode cL_isWeighed 75 = .ok (.iconst 0, 1) := by decide +kernel
theorem dL_isWeighed_76 : decode cL_isWeighed 76 = .ok (.istore 6, 2) := by decide +kernel
theorem dL_isWeighed_78 : decode cL_isWeighed 78 = .ok (.aload_n 0, 1) := by decide +kernel
theorem dL_isWeighed_79 : decode cL_isWeighed 79 = .ok (.invokevirtual 184, 3) := by decide +kernel
theorem dL_isWeighed_82 : decode cL_isWeighed 82 = .ok (.pop, 1) := by decide +kernel
theorem dL_isWeighed_83 : decode cL_isWeighed 83 = .ok (.iload 6, 2) := by decide +kernel
theorem dL_isWeighed_85 : decode cL_isWeighed 85 = .ok (.ifCond .eq 25, 3) := by decide +kernel
theorem dL_isWeighed_88 : decode cL_isWeighed 88 = .ok (.aload_n 0, 1) := by decide +kernel
theorem dL_isWeighed_89 : decode cL_isWeighed 89 = .ok (.invokevirtual 95, 3) := by decide +kernel
theorem dL_isWeighed_92 : decode cL_isWeighed 92 = .ok (.iload 4, 2) := by decide +kernel
theorem dL_isWeighed_94 : decode cL_isWeighed 94 = .ok (.if_icmp .ne 16, 3) := by decide +kernel
theorem dL_isWeighed_97 : decode cL_isWeighed 97 = .ok (.aload_n 0, 1) := by decide +kernel
theorem dL_isWeighed_98 : decode cL_isWeighed 98 = .ok (.invokestatic 170, 3) := by decide +kernel
theorem dL_isWeighed_101 : decode cL_isWeighed 101 = .ok (.lload_n 2, 1) := by decide +kernel
theorem dL_isWeighed_102 : decode cL_isWeighed 102 = .ok (.lcmp, 1) := by decide +kernel
theorem dL_isWeighed_103 : decode cL_isWeighed 103 = .ok (.ifCond .ne 7, 3) := by decide +kernel
theorem dL_isWeighed_106 : decode cL_isWeighed 106 = .ok (.iconst 1, 1) := by decide +kernel
theorem dL_isWeighed_107 : decode cL_isWeighed 107 = .ok (.goto 4, 3) := by decide +kernel
theorem dL_isWeighed_110 : decode cL_isWeighed 110 = .ok (.iconst 0, 1) := by decide +kernel
theorem dL_isWeighed_111 : decode cL_isWeighed 111 = .ok (.ireturn, 1) := by decide +kernel
theorem dL_isSame_0 : decode cL_isSame 0 = .ok (.aload_n 0, 1) := by decide +kernel
theorem dL_isSame_1 : decode cL_isSame 1 = .ok (.invokevirtual 59, 3) := by decide +kernel
theorem dL_isSame_4 : decode cL_isSame 4 = .ok (.iload_n 1, 1) := by decide +kernel
theorem dL_isSame_5 : decode cL_isSame 5 = .ok (.iadd, 1) := by decide +kernel
theorem dL_isSame_6 : decode cL_isSame 6 = .ok (.iload_n 2, 1) := by decide +kernel
theorem dL_isSame_7 : decode cL_isSame 7 = .ok (.iadd, 1) := by decide +kernel
theorem dL_isSame_8 : decode cL_isSame 8 = .ok (.sipush 2000, 3) := by decide +kernel
theorem dL_isSame_11 : decode cL_isSame 11 = .ok (.if_icmp .le 5, 3) := by decide +kernel
theorem dL_isSame_14 : decode cL_isSame 14 = .ok (.iconst 1, 1) := by decide +kernel
theorem dL_isSame_15 : decode cL_isSame 15 = .ok (.ireturn, 1) := by decide +kernel
theorem dL_isSame_16 : decode cL_isSame 16 = .ok (.aload_n 0, 1) := by decide +kernel
theorem dL_isSame_17 : decode cL_isSame 17 = .ok (.invokestatic 187, 3) := by decide +kernel
theorem dL_isSame_20 : decode cL_isSame 20 = .ok (.lstore_n 3, 1) := by decide +kernel
theorem dL_isSame_21 : decode cL_isSame 21 = .ok (.aload_n 0, 1) := by decide +kernel
theorem dL_isSame_22 : decode cL_isSame 22 = .ok (.invokevirtual 190, 3) := by decide +kernel
theorem dL_isSame_25 : decode cL_isSame 25 = .ok (.pop, 1) := by decide +kernel
theorem dL_isSame_26 : decode cL_isSame 26 = .ok (.aload_n 0, 1) := by decide +kernel
theorem dL_isSame_27 : decode cL_isSame 27 = .ok (.iload_n 1, 1) := by decide +kernel
theorem dL_isSame_28 : decode cL_isSame 28 = .ok (.iload_n 2, 1) := by decide +kernel
theorem dL_isSame_29 : decode cL_isSame 29 = .ok (.iadd, 1) := by decide +kernel
theorem dL_isSame_30 : decode cL_isSame 30 = .ok (.invokevirtual 62, 3) := by decide +kernel
theorem dL_isSame_33 : decode cL_isSame 33 = .ok (.istore 5, 2) := by decide +kernel
theorem dL_isSame_35 : decode cL_isSame 35 = .ok (.aload_n 0, 1) := by decide +kernel
theorem dL_isSame_36 : decode cL_isSame 36 = .ok (.invokestatic 187, 3) := by decide +kernel
theorem dL_isSame_39 : decode cL_isSame 39 = .ok (.lstore 6, 2) := by decide +kernel
theorem dL_isSame_41 : decode cL_isSame 41 = .ok (.aload_n 0, 1) := by decide +kernel
theorem dL_isSame_42 : decode cL_isSame 42 = .ok (.invokevirtual 193, 3) := by decide +kernel
theorem dL_isSame_45 : decode cL_isSame 45 = .ok (.pop, 1) := by decide +kernel
theorem dL_isSame_46 : decode cL_isSame 46 = .ok (.aload_n 0, 1) := by decide +kernel
theorem dL_isSame_47 : decode cL_isSame 47 = .ok (.iload_n 1, 1) := by decide +kernel
theorem dL_isSame_48 : decode cL_isSame 48 = .ok (.invokevirtual 62, 3) := by decide +kernel
theorem dL_isSame_51 : decode cL_isSame 51 = .ok (.pop, 1) := by decide +kernel
theorem dL_isSame_52 : decode cL_isSame 52 = .ok (.aload_n 0, 1) := by decide +kernel
theorem dL_isSame_53 : decode cL_isSame 53 = .ok (.iload_n 2, 1) := by decide +kernel
theorem dL_isSame_54 : decode cL_isSame 54 = .ok (.invokevirtual 62, 3) := by decide +kernel
theorem dL_isSame_57 : decode cL_isSame 57 = .ok (.iload 5, 2) := by decide +kernel
theorem dL_isSame_59 : decode cL_isSame 59 = .ok (.if_icmp .ne 17, 3) := by decide +kernel
theorem dL_isSame_62 : decode cL_isSame 62 = .ok (.aload_n 0, 1) := by decide +kernel
theorem dL_isSame_63 : decode cL_isSame 63 = .ok (.invokestatic 187, 3) := by decide +kernel
theorem dL_isSame_66 : decode cL_isSame 66 = .ok (.lload 6, 2) := by decide +kernel
theorem dL_isSame_68 : decode cL_isSame 68 = .ok (.lcmp, 1) := by decide +kernel
theorem dL_isSame_69 : decode cL_isSame 69 = .ok (.ifCond .ne 7, 3) := by decide +kernel
theorem dL_isSame_72 : decode cL_isSame 72 = .ok (.iconst 1, 1) := by decide +kernel
theorem dL_isSame_73 : decode cL_isSame 73 = .ok (.goto 4, 3) := by decide +kernel
theorem dL_isSame_76 : decode cL_isSame 76 = .ok (.iconst 0, 1) := by decide +kernel
theorem dL_isSame_77 : decode cL_isSame 77 = .ok (.istore 8, 2) := by decide +kernel
theorem dL_isSame_79 : decode cL_isSame 79 = .ok (.aload_n 0, 1) := by decide +kernel
theorem dL_isSame_80 : decode cL_isSame 80 = .ok (.invokevirtual 193, 3) := by decide +kernel
theorem dL_isSame_83 : decode cL_isSame 83 = .ok (.pop, 1) := by decide +kernel
theorem dL_isSame_84 : decode cL_isSame 84 = .ok (.iload 8, 2) := by decide +kernel
theorem dL_isSame_86 : decode cL_isSame 86 = .ok (.ifCond .eq 16, 3) := by decide +kernel
theorem dL_isSame_89 : decode cL_isSame 89 = .ok (.aload_n 0, 1) := by decide +kernel
theorem dL_isSame_90 : decode cL_isSame 90 = .ok (.invokestatic 187, 3) := by decide +kernel
theorem dL_isSame_93 : decode cL_isSame 93 = .ok (.lload_n 3, 1) := by decide +kernel
theorem dL_isSame_94 : decode cL_isSame 94 = .ok (.lcmp, 1) := by decide +kernel
theorem dL_isSame_95 : decode cL_isSame 95 = .ok (.ifCond .ne 7, 3) := by decide +kernel
theorem dL_isSame_98 : decode cL_isSame 98 = .ok (.iconst 1, 1) := by decide +kernel
theorem dL_isSame_99 : decode cL_isSame 99 = .ok (.goto 4, 3) := by decide +kernel
theorem dL_isSame_102 : decode cL_isSame 102 = .ok (.iconst 0, 1) := by decide +kernel
theorem dL_isSame_103 : decode cL_isSame 103 = .ok (.ireturn, 1) := by decide +kernel
theorem dL_law_0 : decode cL_law 0 = .ok (.new 8, 3) := by decide +kernel
theorem dL_law_3 : decode cL_law 3 = .ok (.dup, 1) := by decide +kernel
theorem dL_law_4 : decode cL_law 4 = .ok (.invokespecial 196, 3) := by decide +kernel
theorem dL_law_7 : decode cL_law 7 = .ok (.astore_n 1, 1) := by decide +kernel
theorem dL_law_8 : decode cL_law 8 = .ok (.aload_n 0, 1) := by decide +kernel
theorem dL_law_9 : decode cL_law 9 = .ok (.iconst 0, 1) := by decide +kernel
theorem dL_law_10 : decode cL_law 10 = .ok (.invokestatic 197, 3) := by decide +kernel
theorem dL_law_13 : decode cL_law 13 = .ok (.bipush 64, 2) := by decide +kernel
theorem dL_law_15 : decode cL_law 15 = .ok (.iand, 1) := by decide +kernel
theorem dL_law_16 : decode cL_law 16 = .ok (.ifCond .eq 19, 3) := by decide +kernel
theorem dL_law_19 : decode cL_law 19 = .ok (.aload_n 1, 1) := by decide +kernel
theorem dL_law_20 : decode cL_law 20 = .ok (.aload_n 0, 1) := by decide +kernel
theorem dL_law_21 : decode cL_law 21 = .ok (.iconst 0, 1) := by decide +kernel
theorem dL_law_22 : decode cL_law 22 = .ok (.invokestatic 197, 3) := by decide +kernel
theorem dL_law_25 : decode cL_law 25 = .ok (.bipush 7, 2) := by decide +kernel
theorem dL_law_27 : decode cL_law 27 = .ok (.iushr, 1) := by decide +kernel
theorem dL_law_28 : decode cL_law 28 = .ok (.bipush 15, 2) := by decide +kernel
theorem dL_law_30 : decode cL_law 30 = .ok (.iand, 1) := by decide +kernel
theorem dL_law_31 : decode cL_law 31 = .ok (.invokevirtual 201, 3) := by decide +kernel
theorem dL_law_34 : decode cL_law 34 = .ok (.pop, 1) := by decide +kernel
theorem dL_law_35 : decode cL_law 35 = .ok (.aload_n 0, 1) := by decide +kernel
theorem dL_law_36 : decode cL_law 36 = .ok (.iconst 1, 1) := by decide +kernel
theorem dL_law_37 : decode cL_law 37 = .ok (.invokestatic 197, 3) := by decide +kernel
theorem dL_law_40 : decode cL_law 40 = .ok (.bipush 64, 2) := by decide +kernel
theorem dL_law_42 : decode cL_law 42 = .ok (.iand, 1) := by decide +kernel
theorem dL_law_43 : decode cL_law 43 = .ok (.ifCond .eq 19, 3) := by decide +kernel
theorem dL_law_46 : decode cL_law 46 = .ok (.aload_n 1, 1) := by decide +kernel
theorem dL_law_47 : decode cL_law 47 = .ok (.aload_n 0, 1) := by decide +kernel
theorem dL_law_48 : decode cL_law 48 = .ok (.iconst 1, 1) := by decide +kernel
theorem dL_law_49 : decode cL_law 49 = .ok (.invokestatic 197, 3) := by decide +kernel
theorem dL_law_52 : decode cL_law 52 = .ok (.bipush 7, 2) := by decide +kernel
theorem dL_law_54 : decode cL_law 54 = .ok (.iushr, 1) := by decide +kernel
theorem dL_law_55 : decode cL_law 55 = .ok (.bipush 63, 2) := by decide +kernel
theorem dL_law_57 : decode cL_law 57 = .ok (.iand, 1) := by decide +kernel
theorem dL_law_58 : decode cL_law 58 = .ok (.invokevirtual 201, 3) := by decide +kernel
theorem dL_law_61 : decode cL_law 61 = .ok (.pop, 1) := by decide +kernel
theorem dL_law_62 : decode cL_law 62 = .ok (.aload_n 1, 1) := by decide +kernel
theorem dL_law_63 : decode cL_law 63 = .ok (.invokestatic 180, 3) := by decide +kernel
theorem dL_law_66 : decode cL_law 66 = .ok (.ifCond .ne 5, 3) := by decide +kernel
theorem dL_law_69 : decode cL_law 69 = .ok (.iconst 0, 1) := by decide +kernel
theorem dL_law_70 : decode cL_law 70 = .ok (.ireturn, 1) := by decide +kernel
theorem dL_law_71 : decode cL_law 71 = .ok (.iconst 0, 1) := by decide +kernel
theorem dL_law_72 : decode cL_law 72 = .ok (.istore_n 2, 1) := by decide +kernel
theorem dL_law_73 : decode cL_law 73 = .ok (.iload_n 2, 1) := by decide +kernel
theorem dL_law_74 : decode cL_law 74 = .ok (.bipush 12, 2) := by decide +kernel
theorem dL_law_76 : decode cL_law 76 = .ok (.if_icmp .ge 139, 3) := by decide +kernel
theorem dL_law_79 : decode cL_law 79 = .ok (.aload_n 0, 1) := by decide +kernel
theorem dL_law_80 : decode cL_law 80 = .ok (.iload_n 2, 1) := by decide +kernel
theorem dL_law_81 : decode cL_law 81 = .ok (.invokestatic 197, 3) := by decide +kernel
theorem dL_law_84 : decode cL_law 84 = .ok (.istore_n 3, 1) := by decide +kernel
theorem dL_law_85 : decode cL_law 85 = .ok (.aload_n 1, 1) := by decide +kernel
theorem dL_law_86 : decode cL_law 86 = .ok (.invokevirtual 204, 3) := by decide +kernel
theorem dL_law_89 : decode cL_law 89 = .ok (.istore 4, 2) := by decide +kernel
theorem dL_law_91 : decode cL_law 91 = .ok (.aload_n 1, 1) := by decide +kernel
theorem dL_law_92 : decode cL_law 92 = .ok (.invokestatic 187, 3) := by decide +kernel
theorem dL_law_95 : decode cL_law 95 = .ok (.lstore 5, 2) := by decide +kernel
theorem dL_law_97 : decode cL_law 97 = .ok (.aload_n 1, 1) := by decide +kernel
theorem dL_law_98 : decode cL_law 98 = .ok (.iload_n 3, 1) := by decide +kernel
theorem dL_law_99 : decode cL_law 99 = .ok (.invokestatic 207, 3) := by decide +kernel
theorem dL_law_102 : decode cL_law 102 = .ok (.aload_n 1, 1) := by decide +kernel
theorem dL_law_103 : decode cL_law 103 = .ok (.invokevirtual 204, 3) := by decide +kernel
theorem dL_law_106 : decode cL_law 106 = .ok (.iload 4, 2) := by decide +kernel
theorem dL_law_108 : decode cL_law 108 = .ok (.if_icmp .le 7, 3) := by decide +kernel
theorem dL_law_111 : decode cL_law 111 = .ok (.iconst 1, 1) := by decide +kernel
theorem dL_law_112 : decode cL_law 112 = .ok (.goto 4, 3) := by decide +kernel
theorem dL_law_115 : decode cL_law 115 = .ok (.iconst 0, 1) := by decide +kernel
theorem dL_law_116 : decode cL_law 116 = .ok (.istore 7, 2) := by decide +kernel
theorem dL_law_118 : decode cL_law 118 = .ok (.aload_n 1, 1) := by decide +kernel
theorem dL_law_119 : decode cL_law 119 = .ok (.invokestatic 180, 3) := by decide +kernel
theorem dL_law_122 : decode cL_law 122 = .ok (.ifCond .eq 25, 3) := by decide +kernel
theorem dL_law_125 : decode cL_law 125 = .ok (.iload 7, 2) := by decide +kernel
theorem dL_law_127 : decode cL_law 127 = .ok (.ifCond .ne 22, 3) := by decide +kernel
theorem dL_law_130 : decode cL_law 130 = .ok (.iload 4, 2) := by decide +kernel
theorem dL_law_132 : decode cL_law 132 = .ok (.bipush 8, 2) := by decide +kernel
theorem dL_law_134 : decode cL_law 134 = .ok (.if_icmp .ge 15, 3) := by decide +kernel
theorem dL_law_137 : decode cL_law 137 = .ok (.aload_n 1, 1) := by decide +kernel
theorem dL_law_138 : decode cL_law 138 = .ok (.invokestatic 187, 3) := by decide +kernel
theorem dL_law_141 : decode cL_law 141 = .ok (.lload 5, 2) := by decide +kernel
theorem dL_law_143 : decode cL_law 143 = .ok (.lcmp, 1) := by decide +kernel
theorem dL_law_144 : decode cL_law 144 = .ok (.ifCond .eq 5, 3) := by decide +kernel
theorem dL_law_147 : decode cL_law 147 = .ok (.iconst 0, 1) := by decide +kernel
theorem dL_law_148 : decode cL_law 148 = .ok (.ireturn, 1) := by decide +kernel
theorem dL_law_149 : decode cL_law 149 = .ok (.iload 7, 2) := by decide +kernel
theorem dL_law_151 : decode cL_law 151 = .ok (.ifCond .eq 34, 3) := by decide +kernel
theorem dL_law_154 : decode cL_law 154 = .ok (.iload_n 3, 1) := by decide +kernel
theorem dL_law_155 : decode cL_law 155 = .ok (.bipush 29, 2) := by decide +kernel
theorem dL_law_157 : decode cL_law 157 = .ok (.iushr, 1) := by decide +kernel
theorem dL_law_158 : decode cL_law 158 = .ok (.iconst 3, 1) := by decide +kernel
theorem dL_law_159 : decode cL_law 159 = .ok (.iand, 1) := by decide +kernel
theorem dL_law_160 : decode cL_law 160 = .ok (.iconst 1, 1) := by decide +kernel
theorem dL_law_161 : decode cL_law 161 = .ok (.if_icmp .ne 24, 3) := by decide +kernel
theorem dL_law_164 : decode cL_law 164 = .ok (.aload_n 1, 1) := by decide +kernel
theorem dL_law_165 : decode cL_law 165 = .ok (.invokevirtual 184, 3) := by decide +kernel
theorem dL_law_168 : decode cL_law 168 = .ok (.iload 4, 2) := by decide +kernel
theorem dL_law_170 : decode cL_law 170 = .ok (.if_icmp .ne 13, 3) := by decide +kernel
theorem dL_law_173 : decode cL_law 173 = .ok (.aload_n 1, 1) := by decide +kernel
theorem dL_law_174 : decode cL_law 174 = .ok (.invokestatic 187, 3) := by decide +kernel
theorem dL_law_177 : decode cL_law 177 = .ok (.lload 5, 2) := by decide +kernel
theorem dL_law_179 : decode cL_law 179 = .ok (.lcmp, 1) := by decide +kernel
theorem dL_law_180 : decode cL_law 180 = .ok (.ifCond .eq 5, 3) := by decide +kernel
theorem dL_law_183 : decode cL_law 183 = .ok (.iconst 0, 1) := by decide +kernel
theorem dL_law_184 : decode cL_law 184 = .ok (.ireturn, 1) := by decide +kernel
theorem dL_law_185 : decode cL_law 185 = .ok (.iload_n 2, 1) := by decide +kernel
theorem dL_law_186 : decode cL_law 186 = .ok (.iconst 3, 1) := by decide +kernel
theorem dL_law_187 : decode cL_law 187 = .ok (.irem, 1) := by decide +kernel
theorem dL_law_188 : decode cL_law 188 = .ok (.iconst 2, 1) := by decide +kernel
theorem dL_law_189 : decode cL_law 189 = .ok (.if_icmp .ne 20, 3) := by decide +kernel
theorem dL_law_192 : decode cL_law 192 = .ok (.aload_n 1, 1) := by decide +kernel
theorem dL_law_193 : decode cL_law 193 = .ok (.iconst 1, 1) := by decide +kernel
theorem dL_law_194 : decode cL_law 194 = .ok (.iload_n 3, 1) := by decide +kernel
theorem dL_law_195 : decode cL_law 195 = .ok (.iconst 5, 1) := by decide +kernel
theorem dL_law_196 : decode cL_law 196 = .ok (.iushr, 1) := by decide +kernel
theorem dL_law_197 : decode cL_law 197 = .ok (.bipush 31, 2) := by decide +kernel
theorem dL_law_199 : decode cL_law 199 = .ok (.iand, 1) := by decide +kernel
theorem dL_law_200 : decode cL_law 200 = .ok (.iadd, 1) := by decide +kernel
theorem dL_law_201 : decode cL_law 201 = .ok (.invokestatic 211, 3) := by decide +kernel
theorem dL_law_204 : decode cL_law 204 = .ok (.ifCond .ne 5, 3) := by decide +kernel
theorem dL_law_207 : decode cL_law 207 = .ok (.iconst 0, 1) := by decide +kernel
theorem dL_law_208 : decode cL_law 208 = .ok (.ireturn, 1) := by decide +kernel
theorem dL_law_209 : decode cL_law 209 = .ok (.iinc 2 1, 3) := by decide +kernel
theorem dL_law_212 : decode cL_law 212 = .ok (.goto (-139), 3) := by decide +kernel
theorem dL_law_215 : decode cL_law 215 = .ok (.aload_n 1, 1) := by decide +kernel
theorem dL_law_216 : decode cL_law 216 = .ok (.iconst 1, 1) := by decide +kernel
theorem dL_law_217 : decode cL_law 217 = .ok (.aload_n 0, 1) := by decide +kernel
theorem dL_law_218 : decode cL_law 218 = .ok (.iconst 0, 1) := by decide +kernel
theorem dL_law_219 : decode cL_law 219 = .ok (.invokestatic 197, 3) := by decide +kernel
theorem dL_law_222 : decode cL_law 222 = .ok (.iconst 4, 1) := by decide +kernel
theorem dL_law_223 : decode cL_law 223 = .ok (.iushr, 1) := by decide +kernel
theorem dL_law_224 : decode cL_law 224 = .ok (.bipush 31, 2) := by decide +kernel
theorem dL_law_226 : decode cL_law 226 = .ok (.iand, 1) := by decide +kernel
theorem dL_law_227 : decode cL_law 227 = .ok (.iadd, 1) := by decide +kernel
theorem dL_law_228 : decode cL_law 228 = .ok (.iconst 1, 1) := by decide +kernel
theorem dL_law_229 : decode cL_law 229 = .ok (.aload_n 0, 1) := by decide +kernel
theorem dL_law_230 : decode cL_law 230 = .ok (.iconst 1, 1) := by decide +kernel
theorem dL_law_231 : decode cL_law 231 = .ok (.invokestatic 197, 3) := by decide +kernel
theorem dL_law_234 : decode cL_law 234 = .ok (.iconst 4, 1) := by decide +kernel
theorem dL_law_235 : decode cL_law 235 = .ok (.iushr, 1) := by decide +kernel
theorem dL_law_236 : decode cL_law 236 = .ok (.bipush 63, 2) := by decide +kernel
theorem dL_law_238 : decode cL_law 238 = .ok (.iand, 1) := by decide +kernel
theorem dL_law_239 : decode cL_law 239 = .ok (.iadd, 1) := by decide +kernel
theorem dL_law_240 : decode cL_law 240 = .ok (.invokestatic 215, 3) := by decide +kernel
theorem dL_law_243 : decode cL_law 243 = .ok (.ireturn, 1) := by decide +kernel
end
section
/-! The heap as numbers: every object and array of the class has a place k (its address is a base + k), a kind, a length, references that are fixed once it is made, and a row of ints. -/
/-- base address, class ids, array class ids, addresses of constants -/
abbrev hk_G : Type := Nat × va_G × (Nat → ClassId) × (Nat → Nat → Nat)
/-- how many places, the kind, the length, the references -/
abbrev hk_E : Type := Nat × (Nat → Nat) × (Nat → Nat) × (Nat → Nat → Option Nat)
abbrev hk_S : Type := Nat → Nat → Int32
/-- the sort of a field: 0 an int, 1 a reference, 2 a constant of an enum (by its ordinal, -1 for null) -/
def hk_sort (ci k : Nat) : Nat :=
  match ci with
  | 0 => if k = 4 then 1 else 0
  | 1 => if k = 0 then 1 else 0
  | 2 => if k = 0 then 1 else 0
  | 3 => if k = 0 ∨ k = 1 ∨ k = 3 then 1 else 0
  | 5 => if k = 0 then 1 else 0
  | 6 => if k = 0 ∨ k = 1 ∨ k = 8 ∨ k = 12 ∨ k = 13 then 1 else if k = 5 then 2 else 0
  | 8 => if k = 2 then 0 else 1
  | _ => 0
def hk_nf (ci : Nat) : Nat := match ci with
  | 0 => 5 | 1 => 3 | 2 => 2 | 3 => 13 | 4 => 3 | 5 => 2 | 6 => 14 | 7 => 10 | _ => 7
/-- a constant of an enum -/
def hk_en (ad : Nat → Nat) (x : Int32) : Value := if x < 0 then .null else .ref (ad x.toNatClampNeg)
def hk_rf (b : Nat) (r : Option Nat) : Value := va_rf (r.map (fun x => b + x))
def hk_fld (g : hk_G) (ci k : Nat) (I : Nat → Int32) (J : Nat → Option Nat) : Value :=
  if hk_sort ci k = 0 then .int (I k) else if hk_sort ci k = 1 then hk_rf g.1 (J k) else hk_en (g.2.2.2 2) (I k)
def hk_flds (g : hk_G) (ci : Nat) (I : Nat → Int32) (J : Nat → Option Nat) : List Value := (List.range (hk_nf ci)).map (fun k => hk_fld g ci k I J)
def hk_cell (g : hk_G) (kd ln : Nat) (I : Nat → Int32) (J : Nat → Option Nat) : va_E :=
  if kd ≤ 10 then .inr (kd - 1, hk_flds g (kd - 1) I J)
  else if kd ≤ 13 then .inl (g.2.2.1 (kd - 11), (ln, .inl I))
  else if kd ≤ 16 then .inl (g.2.2.1 (kd - 11), (ln, .inr (.inr (.inr (.inr (fun j => (J j).map (fun x => g.1 + x)))))))
  else .inl (g.2.2.1 (kd - 11), (ln, .inr (.inl (fun j => (I j).toInt64))))
def hk_tys (g : hk_G) : List (ClassId × FieldType) := [(g.2.2.1 0, .byte), (g.2.2.1 1, .byte), (g.2.2.1 2, .int), (g.2.2.1 3, .object "WitheringLoft$Loft"), (g.2.2.1 4, .object "WitheringLoft$Probe"), (g.2.2.1 5, .object "WitheringLoft$Trough")]
def hk_H (g : hk_G) (E : hk_E) (S : hk_S) (H : Heap) : Prop := g.1 + E.1 ≤ H.size ∧ ∀ a, E.2.1 a ≠ 0 → a < E.1 ∧ va_at g.2.1 vwCl (g.1 + a, hk_cell g (E.2.1 a) (E.2.2.1 a) (S a) (E.2.2.2 a)) H
/-- the row of a place, with one value new -/
def hk_up (S : hk_S) (a k : Nat) (v : Int32) : hk_S := va_up S a (upd (S a) k v)
theorem hk_up_self (S : hk_S) (a k : Nat) (v : Int32) : hk_up S a k v a = upd (S a) k v := va_up_self _ _ _
theorem hk_up_ne (S : hk_S) {a b : Nat} (k : Nat) (v : Int32) (h : b ≠ a) : hk_up S a k v b = S b := va_up_ne _ _ h
theorem hk_H.one {g : hk_G} {E : hk_E} {S : hk_S} {H : Heap} {a kd : Nat} (h : hk_H g E S H) (hk : E.2.1 a = kd) (h0 : kd ≠ 0) : va_P g.2.1 vwCl [(g.1 + a, hk_cell g kd (E.2.2.1 a) (S a) (E.2.2.2 a))] H := by
  intro k q hq
  have hz : k = 0 := by
    have := (List.getElem?_eq_some_iff.mp hq).1
    simp at this
    omega
  subst hz
  cases hq
  subst hk
  exact (h.2 a h0).2
theorem hk_H.kept {g : hk_G} {E : hk_E} {S S1 : hk_S} {H H1 : Heap} {a kd : Nat} (h : hk_H g E S H) (hk : E.2.1 a = kd) (h0 : kd ≠ 0) (hz : H1.size = H.size) (o : ∀ q : Nat, q ≠ g.1 + a → H1[q]? = H[q]?) (hS : ∀ b, b ≠ a → S1 b = S b) (hn : va_at g.2.1 vwCl (g.1 + a, hk_cell g kd (E.2.2.1 a) (S1 a) (E.2.2.2 a)) H1) : hk_H g E S1 H1 := by
  refine ⟨by rw [hz]; exact h.1, fun b hb => ⟨(h.2 b hb).1, ?_⟩⟩
  by_cases hba : b = a
  · subst hba
    rw [hk]
    exact hn
  · rw [hS b hba]
    exact (h.2 b hb).2.kept (o (g.1 + b) (by omega))
theorem hk_flds_get {g : hk_G} {ci k : Nat} {I : Nat → Int32} {J : Nat → Option Nat} (hk : k < hk_nf ci) : (hk_flds g ci I J)[k]? = some (hk_fld g ci k I J) := by
  unfold hk_flds
  rw [List.getElem?_map, List.getElem?_range hk]
  rfl
theorem hk_flds_len {g : hk_G} {ci : Nat} {I : Nat → Int32} {J : Nat → Option Nat} : (hk_flds g ci I J).length = hk_nf ci := by
  unfold hk_flds
  rw [List.length_map, List.length_range]
theorem hk_flds_put {g : hk_G} {ci k : Nat} {I : Nat → Int32} {J : Nat → Option Nat} {v : Int32} {w : Value} (hk : k < hk_nf ci) (hw : hk_fld g ci k (upd I k v) J = w) : (hk_flds g ci I J).set k w = hk_flds g ci (upd I k v) J := by
  apply List.ext_getElem?
  intro j
  by_cases hj : j = k
  · subst hj
    rw [List.getElem?_set_self (by rw [hk_flds_len]; exact hk), hk_flds_get hk, hw]
  · rw [List.getElem?_set_ne (Ne.symm hj)]
    by_cases hl : j < hk_nf ci
    · rw [hk_flds_get hl, hk_flds_get hl]
      have e : upd I k v j = I j := pk_un hj
      unfold hk_fld
      rw [e]
    · rw [List.getElem?_eq_none (by rw [hk_flds_len]; omega), List.getElem?_eq_none (by rw [hk_flds_len]; omega)]
theorem hk_flds_putR {g : hk_G} {ci k : Nat} {I : Nat → Int32} {J : Nat → Option Nat} {v : Option Nat} (hk : k < hk_nf ci) (hs : hk_sort ci k = 1) : (hk_flds g ci I J).set k (hk_rf g.1 v) = hk_flds g ci I (va_up J k v) := by
  apply List.ext_getElem?
  intro j
  by_cases hj : j = k
  · subst hj
    rw [List.getElem?_set_self (by rw [hk_flds_len]; exact hk), hk_flds_get hk]
    unfold hk_fld
    rw [hs, if_neg (by decide), if_pos rfl, va_up_self]
  · rw [List.getElem?_set_ne (Ne.symm hj)]
    by_cases hl : j < hk_nf ci
    · rw [hk_flds_get hl, hk_flds_get hl]
      have e : va_up J k v j = J j := va_up_ne _ _ hj
      unfold hk_fld
      rw [e]
    · rw [List.getElem?_eq_none (by rw [hk_flds_len]; omega), List.getElem?_eq_none (by rw [hk_flds_len]; omega)]
/-- the words that every method needs: those of the tables that hold on as the run goes on -/
def hk_W : List Cond := lw_tbl.filter goodWord
theorem hk_good : ∀ w ∈ hk_W, ((w.onTables && w.keeps) = true ∨ ∃ ty, w = .arrayClass ty) := fun w hw => good_of_word (List.mem_filter.mp hw).2
theorem hk_m {w : Cond} (i : Nat) (h : lw_tbl[i]? = some w) (hg : goodWord w = true) : w ∈ hk_W := List.mem_filter.mpr ⟨List.mem_of_getElem? h, hg⟩
theorem hk_mm {ws : List Cond} (h : ∀ w ∈ ws, w ∈ lw_tbl) (hg : ws.all goodWord = true) : ∀ w ∈ ws, w ∈ hk_W := fun w hw => List.mem_filter.mpr ⟨h w hw, List.all_eq_true.mp hg w hw⟩
end
section
/-- what is ours: all from the base address on -/
abbrev hk_A (g : hk_G) : Nat → Prop := fun q => g.1 ≤ q
def hk_nest : List (String × Nat × MethodName × String) := [("WitheringLoft$Loft", 11, ⟨"WitheringLoft$Air", "<init>", "()V"⟩, "WitheringLoft"), ("WitheringLoft$Loft", 30, ⟨"WitheringLoft$Trough", "<init>", "()V"⟩, "WitheringLoft"), ("WitheringLoft$Loft", 31, ⟨"WitheringLoft$Probe", "<init>", "()V"⟩, "WitheringLoft"), ("WitheringLoft", 28, ⟨"WitheringLoft$Script", "<init>", "()V"⟩, "WitheringLoft"), ("WitheringLoft$Script", 11, ⟨"WitheringLoft$Input", "<init>", "()V"⟩, "WitheringLoft"), ("WitheringLoft", 35, ⟨"WitheringLoft$Report", "<init>", "()V"⟩, "WitheringLoft"), ("WitheringLoft", 42, ⟨"WitheringLoft$Trough", "<init>", "()V"⟩, "WitheringLoft"), ("WitheringLoft$Trough", 66, ⟨"WitheringLoft", "notBelowLowest", "(I)I"⟩, "WitheringLoft")]
/-- the constants, as they stand in a heap -/
def hk_Z (g : hk_G) (U : State) (H : Heap) : Prop := va_Z "WitheringLoft$Token" "END" "LWitheringLoft$Token;" (.ref (g.2.2.2 2 5)) (hk_A g) U H ∧ (∀ q ∈ hk_nest, va_Nw (.methodLinkNest q.1 q.2.1 q.2.2.1 q.2.2.2) U) ∧ va_AO "WitheringLoft$Loft" U ∧ va_AO "WitheringLoft$Probe" U ∧ va_AO "WitheringLoft$Trough" U
theorem hk_Z.kept {g : hk_G} {U : State} {H H1 : Heap} (h : hk_Z g U H) (hq : ∀ a : Nat, a < H.size → ¬ hk_A g a → H1[a]? = H[a]?) : hk_Z g U H1 := ⟨h.1.kept hq, h.2⟩
theorem hk_Z.warm {g : hk_G} {s U : State} {H : Heap} (hW : s.WarmedH U.vm) (h : hk_Z g s H) : hk_Z g U H := by
  obtain ⟨h1, n1, n5, n6, n7⟩ := h
  have hvm : s.vm.Alike U.vm := hW.alike
  exact ⟨h1.moved hvm, fun q hq => (n1 q hq).warmM hW, n5.moved hvm, n6.moved hvm, n7.moved hvm⟩
theorem hk_Z.same {g : hk_G} {u U : State} {H : Heap} (hv : U.vm = u.vm) (h : hk_Z g u H) : hk_Z g U H := by
  obtain ⟨h1, n1, n5, n6, n7⟩ := h
  have hvm : u.vm.Alike U.vm := by rw [hv]; exact Vm.Alike.refl _
  exact ⟨h1.moved hvm, fun q hq => va_Nw.same rfl hv.symm (n1 q hq), n5.moved hvm, n6.moved hvm, n7.moved hvm⟩
/-- the heap as numbers, its size, the tables -/
def hk_C (g : hk_G) (E : hk_E) (S : hk_S) (n : Nat) (U : State) (H : Heap) : Prop := hk_H g E S H ∧ H.size = n ∧ va_K g.2.1 vwCl (hk_tys g) U
/-- the same, within a method that began at s -/
def hk_GG (g : hk_G) (E : hk_E) (S : hk_S) (n : Nat) (s : State) (H : Heap) (locs : List Loc) : Prop := hk_C g E S n s H ∧ va_S (hk_A g) s.heap H locs ∧ hk_Z g s s.heap ∧ g.1 ≤ s.heap.size
def hk_Pc (g : hk_G) (E : hk_E) (S : hk_S) (n : Nat) (av : List Value) : Array Value → State → Prop := va_Pc av (fun U => hk_C g E S n U U.heap ∧ hk_Z g U U.heap ∧ g.1 ≤ U.heap.size)
def hk_Q (g : hk_G) (E : hk_E) (S : hk_S) (n : Nat) (v : Option Value) : Array Value → State → Outcome → State → Prop := fun _ st oc t => oc = .returned v ∧ hk_C g E S n t t.heap ∧ va_F (hk_A g) st t
theorem hk_blind {g : hk_G} {E : hk_E} {S : hk_S} {n : Nat} {av : List Value} : FrameBlind (hk_Pc g E S n av) := by
  intro a U f mk h
  obtain ⟨h0, ⟨h1, h2, h3⟩, h4, h5⟩ := h
  exact ⟨h0, ⟨h1, h2, va_K.moved (u := U) (U := U.calling f mk a) (Vm.Alike.refl U.vm) h3⟩, hk_Z.same (u := U) (U := U.calling f mk a) rfl h4, h5⟩
/-- a method begins -/
theorem hk_begin {g : hk_G} {E : hk_E} {S : hk_S} {n : Nat} {av : List Value} {args : Array Value} {s : State} (h : hk_Pc g E S n av args s) : args = av.toArray ∧ hk_GG g E S n s s.heap [] := ⟨h.1, h.2.1, va_S.rf, h.2.2⟩
/-- a class of ours: its place, name, fields -/
def hk_cls (ci : Nat) (C : String) (T : u_T) (N : Nat) (ty : Nat → FieldType) : Prop := ci < 10 ∧ vwCl[ci]? = some (C, T, N) ∧ hk_nf ci = N ∧ (∀ w ∈ u_ws C T N, w ∈ hk_W) ∧ (∀ k, k < N → parseFieldDescriptor (T k).2.2.1 = some (ty k)) ∧ (∀ a, a < N → ∀ b, b < N → a ≠ b → (T a).2.1 ≠ (T b).2.1)
theorem hk_cell_o {g : hk_G} {ci ln : Nat} {I : Nat → Int32} {J : Nat → Option Nat} (h : ci < 10) : hk_cell g (ci + 1) ln I J = .inr (ci, hk_flds g ci I J) := by
  unfold hk_cell
  rw [if_pos (by omega)]
  rfl
theorem hk_cell_i {g : hk_G} {t ln : Nat} {I : Nat → Int32} {J : Nat → Option Nat} (h : t < 3) : hk_cell g (t + 11) ln I J = .inl (g.2.2.1 t, (ln, .inl I)) := by
  unfold hk_cell
  rw [if_neg (by omega), if_pos (by omega), Nat.add_sub_cancel]
theorem hk_cell_q {g : hk_G} {t ln : Nat} {I : Nat → Int32} {J : Nat → Option Nat} (h : t < 3) : hk_cell g (t + 14) ln I J = .inl (g.2.2.1 (t + 3), (ln, .inr (.inr (.inr (.inr (fun j => (J j).map (fun x => g.1 + x))))))) := by
  unfold hk_cell
  rw [if_neg (by omega), if_neg (by omega), if_pos (by omega), show t + 14 - 11 = t + 3 by omega]
section HKR
variable {p : Program} {l : Launch} {e : Env} {R : Room} {s : State} {m : MethodId} {args : Array Value} {below : List Frame} {meth : Method} {c : Code} {H : Heap} {locs : List Loc} {cells slots : Nat} {Q : State → Prop}
variable {cc : ByteArray} {nL pc : Nat} {ls : Array Slot} {rest : List Value} {own : String} {g : hk_G} {E : hk_E} {S : hk_S} {n : Nat}
/-- getfield, any sort -/
theorem hk_get (F : CallFix p m c cc nL s args hk_W own) (G : hk_GG g E S n s H locs) {a ci N k index : Nat} {C : String} {T : u_T} {ty : Nat → FieldType} {v : Value} (ha : E.2.1 a = ci + 1) (hc : hk_cls ci C T N ty) (hk : k < N) (hl : Cond.fieldLink own index (T k).1 (T k).2.1 (T k).2.2.1 ∈ hk_W) (hv : hk_fld g ci k (S a) (E.2.2.2 a) = v) (hdg : decode cc pc = .ok (.getfield index, 3))
    (kk : W p l e R s m args below meth c H locs cells slots Q (F0 m (pc + 3) ls (v :: rest))) : W p l e R s m args below meth c H locs cells slots Q (F0 m pc ls (.ref (g.1 + a) :: rest)) := by
  obtain ⟨hx, hb, hml, hown, hts⟩ := F
  obtain ⟨c1, c2, c3, c4, c5, c6⟩ := hc
  have hP := G.1.1.one ha (Nat.succ_ne_zero ci)
  rw [hk_cell_o c1] at hP
  exact va_get hx hb hts c4 hown G.1.2.2 hP 0 rfl c2 k hk (hts _ hl) (fun _ h9 => h9) (by rw [hk_flds_get (by rw [c3]; exact hk), hv]) hdg kk
theorem hk_getI (F : CallFix p m c cc nL s args hk_W own) (G : hk_GG g E S n s H locs) {a ci N k index : Nat} {C : String} {T : u_T} {ty : Nat → FieldType} (ha : E.2.1 a = ci + 1) (hc : hk_cls ci C T N ty) (hk : k < N) (hl : Cond.fieldLink own index (T k).1 (T k).2.1 (T k).2.2.1 ∈ hk_W) (hs : hk_sort ci k = 0) (hdg : decode cc pc = .ok (.getfield index, 3))
    (kk : W p l e R s m args below meth c H locs cells slots Q (F0 m (pc + 3) ls (.int (S a k) :: rest))) : W p l e R s m args below meth c H locs cells slots Q (F0 m pc ls (.ref (g.1 + a) :: rest)) :=
  hk_get F G ha hc hk hl (by unfold hk_fld; rw [hs]; rfl) hdg kk
theorem hk_getR (F : CallFix p m c cc nL s args hk_W own) (G : hk_GG g E S n s H locs) {a ci N k index r : Nat} {C : String} {T : u_T} {ty : Nat → FieldType} (ha : E.2.1 a = ci + 1) (hc : hk_cls ci C T N ty) (hk : k < N) (hl : Cond.fieldLink own index (T k).1 (T k).2.1 (T k).2.2.1 ∈ hk_W) (hs : hk_sort ci k = 1) (hr : E.2.2.2 a k = some r) (hdg : decode cc pc = .ok (.getfield index, 3))
    (kk : W p l e R s m args below meth c H locs cells slots Q (F0 m (pc + 3) ls (.ref (g.1 + r) :: rest))) : W p l e R s m args below meth c H locs cells slots Q (F0 m pc ls (.ref (g.1 + a) :: rest)) :=
  hk_get F G ha hc hk hl (by unfold hk_fld; rw [hs, hr]; rfl) hdg kk
/-- putfield, any sort; the new row is I -/
theorem hk_put (F : CallFix p m c cc nL s args hk_W own) (G : hk_GG g E S n s H locs) {a ci N k index : Nat} {C : String} {T : u_T} {ty : Nat → FieldType} {v : Value} {I : Nat → Int32} {ft : FieldType} (ha : E.2.1 a = ci + 1) (hc : hk_cls ci C T N ty) (hk : k < N) (hl : Cond.fieldLink own index (T k).1 (T k).2.1 (T k).2.2.1 ∈ hk_W) (hfin : (T k).2.2.2 = false) (hd : parseFieldDescriptor (T k).2.2.1 = some ft) (hn : narrow ft v = v) (hfit : fits ft v = true) (hv : (hk_flds g ci (S a) (E.2.2.2 a)).set k v = hk_flds g ci I (E.2.2.2 a)) (hdg : decode cc pc = .ok (.putfield index, 3))
    (kk : ∀ (H1 : Heap) (locs1 : List Loc), hk_GG g E (va_up S a I) n s H1 locs1 → W p l e R s m args below meth c H1 locs1 cells slots Q (F0 m (pc + 3) ls rest)) : W p l e R s m args below meth c H locs cells slots Q (F0 m pc ls (v :: .ref (g.1 + a) :: rest)) := by
  obtain ⟨hx, hb, hml, hown, hts⟩ := F
  obtain ⟨c1, c2, c3, c4, c5, c6⟩ := hc
  obtain ⟨⟨hH, hsz, hK⟩, hS, hZ, hg⟩ := G
  have hP := hH.one ha (Nat.succ_ne_zero ci)
  rw [hk_cell_o c1] at hP
  have hap := va_apart (own := own) hts c4 ty c5 c6 hK c2
  obtain ⟨r, h1, cell, q1, q2, q3, q4⟩ := hP 0 _ rfl
  have hr : r = (C, T, N) := Option.some.inj (h1.symm.trans c2)
  subst hr
  obtain ⟨hS0, hfc, kC, hkC, hkind⟩ := hK.1 ci _ c2
  obtain ⟨cf, kf, fi, f, hi, hsl⟩ := hS0 k hk
  have hlay := hts _ (c4 _ (u_in_lay hk))
  unfold u_lay at hlay
  rw [if_neg (by rw [hfin]; decide)] at hlay
  have hst := (u_facts hfc hkC (u_lays hts c4 hk) hi).1
  have h6 := u_store hfc hkC hkind hlay hi hd hn hfit
  refine W.putK hx hb (f := f) ⟨hown, hts _ hl, ⟨_, _, _, hi⟩, hst⟩ (by rw [q2]; exact h6) q1 q3 (by rw [hsl]; exact k2_hasslot (q4 k hk)) rfl rfl hdg fun H' e1 e2 e3 => ?_
  rw [hsl] at e1 ⊢
  refine kk H' _ ⟨⟨hH.kept (S1 := va_up S a I) ha (Nat.succ_ne_zero ci) e2 e3 (fun b hb => va_up_ne _ _ hb) ?_, by rw [e2]; exact hsz, hK⟩, hS.put e2 e3 (Nat.le_add_right _ _), hZ, hg⟩
  rw [hk_cell_o c1, va_up_self, ← hv]
  exact ⟨_, c2, t_OB.to (V := updV (vp_V (hk_flds g ci (S a) (E.2.2.2 a))) k v) ⟨_, e1, q2, q3, t_set q4 hap hk v⟩ (fun j _ => vp_updV_set (by rw [hk_flds_len, c3]; exact hk) v j)⟩
theorem hk_putI (F : CallFix p m c cc nL s args hk_W own) (G : hk_GG g E S n s H locs) {a ci N k index : Nat} {C : String} {T : u_T} {ty : Nat → FieldType} {v : Int32} {ft : FieldType} (ha : E.2.1 a = ci + 1) (hc : hk_cls ci C T N ty) (hk : k < N) (hl : Cond.fieldLink own index (T k).1 (T k).2.1 (T k).2.2.1 ∈ hk_W) (hs : hk_sort ci k = 0) (hfin : (T k).2.2.2 = false) (hd : parseFieldDescriptor (T k).2.2.1 = some ft) (hn : narrow ft (.int v) = .int v) (hfit : fits ft (.int v) = true) (hdg : decode cc pc = .ok (.putfield index, 3))
    (kk : ∀ (H1 : Heap) (locs1 : List Loc), hk_GG g E (hk_up S a k v) n s H1 locs1 → W p l e R s m args below meth c H1 locs1 cells slots Q (F0 m (pc + 3) ls rest)) : W p l e R s m args below meth c H locs cells slots Q (F0 m pc ls (.int v :: .ref (g.1 + a) :: rest)) :=
  hk_put F G ha hc hk hl hfin hd hn hfit (hk_flds_put (by rw [hc.2.2.1]; exact hk) (by unfold hk_fld; rw [hs, pk_us]; rfl)) hdg kk
/-- loads from arrays -/
theorem hk_iald (F : CallFix p m c cc nL s args hk_W own) (G : hk_GG g E S n s H locs) {a ln j : Nat} {i : Int32} (ha : E.2.1 a = 13) (hn : E.2.2.1 a = ln) (hin : vp_in i ln) (hj : i.toNatClampNeg = j) (hdg : decode cc pc = .ok (.iaload, 1))
    (kk : W p l e R s m args below meth c H locs cells slots Q (F0 m (pc + 1) ls (.int (S a j) :: rest))) : W p l e R s m args below meth c H locs cells slots Q (F0 m pc ls (.int i :: .ref (g.1 + a) :: rest)) := by
  subst hj
  have hP := G.1.1.one ha (by decide)
  rw [hk_cell_i (t := 2) (by decide), hn] at hP
  exact va_iald F.1 F.2.1 G.1.2.2 hP 0 2 rfl rfl hin hdg kk
theorem hk_bald (F : CallFix p m c cc nL s args hk_W own) (G : hk_GG g E S n s H locs) {a ln j : Nat} {i : Int32} (ha : E.2.1 a = 11) (hn : E.2.2.1 a = ln) (hin : vp_in i ln) (hj : i.toNatClampNeg = j) (hdg : decode cc pc = .ok (.baload, 1))
    (kk : W p l e R s m args below meth c H locs cells slots Q (F0 m (pc + 1) ls (.int (S a j) :: rest))) : W p l e R s m args below meth c H locs cells slots Q (F0 m pc ls (.int i :: .ref (g.1 + a) :: rest)) := by
  subst hj
  have hP := G.1.1.one ha (by decide)
  rw [hk_cell_i (t := 0) (by decide), hn] at hP
  exact va_bald F.1 F.2.1 G.1.2.2 hP 0 0 rfl rfl hin hdg kk
theorem hk_aald (F : CallFix p m c cc nL s args hk_W own) (G : hk_GG g E S n s H locs) {a ln t r j : Nat} {C : String} {i : Int32} (ha : E.2.1 a = t + 14) (ht : t < 3) (hty : (hk_tys g)[t + 3]? = some (g.2.2.1 (t + 3), .object C)) (hn : E.2.2.1 a = ln) (hin : vp_in i ln) (hj : i.toNatClampNeg = j) (hr : E.2.2.2 a j = some r) (hdg : decode cc pc = .ok (.aaload, 1))
    (kk : W p l e R s m args below meth c H locs cells slots Q (F0 m (pc + 1) ls (.ref (g.1 + r) :: rest))) : W p l e R s m args below meth c H locs cells slots Q (F0 m pc ls (.int i :: .ref (g.1 + a) :: rest)) := by
  subst hj
  have hP := G.1.1.one ha (by omega)
  rw [hk_cell_q ht, hn] at hP
  refine va_aldq F.1 F.2.1 G.1.2.2 hP 0 (t + 3) rfl hty hin hdg ?_
  show W p l e R s m args below meth c H locs cells slots Q (F0 m (pc + 1) ls (va_rf ((E.2.2.2 a i.toNatClampNeg).map (fun x => g.1 + x)) :: rest))
  rw [hr]
  exact kk
theorem hk_alen (F : CallFix p m c cc nL s args hk_W own) (G : hk_GG g E S n s H locs) {a t : Nat} {ft : FieldType} {v : Int32} (ha : E.2.1 a = t + 11) (ht : t < 3) (hty : (hk_tys g)[t]? = some (g.2.2.1 t, ft)) (hv : Int32.ofNat (E.2.2.1 a) = v) (hdg : decode cc pc = .ok (.arraylength, 1))
    (kk : W p l e R s m args below meth c H locs cells slots Q (F0 m (pc + 1) ls (.int v :: rest))) : W p l e R s m args below meth c H locs cells slots Q (F0 m pc ls (.ref (g.1 + a) :: rest)) := by
  have hP := G.1.1.one ha (by omega)
  rw [hk_cell_i ht] at hP
  exact va_alen F.1 F.2.1 G.1.2.2 hP 0 t rfl hty hv hdg kk
/-- what a store into an array leaves -/
theorem hk_stored (G : hk_GG g E S n s H locs) {a kd k : Nat} {v : Int32} {H1 : Heap} (ha : E.2.1 a = kd) (h0 : kd ≠ 0) (z : H1.size = H.size) (o : ∀ q : Nat, q ≠ g.1 + a → H1[q]? = H[q]?) {j : Nat} (hn : va_at g.2.1 vwCl (g.1 + a, hk_cell g kd (E.2.2.1 a) (upd (S a) k v) (E.2.2.2 a)) H1) : hk_GG g E (hk_up S a k v) n s H1 (locs ++ [⟨g.1 + a, j⟩]) := by
  obtain ⟨⟨hH, hsz, hK⟩, hS, hZ, hg⟩ := G
  refine ⟨⟨hH.kept (S1 := hk_up S a k v) ha h0 z o (fun b hb => hk_up_ne _ _ _ hb) ?_, by rw [z]; exact hsz, hK⟩, hS.put z o (Nat.le_add_right _ _), hZ, hg⟩
  rw [hk_up_self]
  exact hn
theorem hk_cellst {H1 : Heap} {q k ln : Nat} {cA : ClassId} {f : Nat → Int32} {v : Int32} (e : H1[q]? = some ((vp_cell cA (ln, .inl f)).setSlot k (.int v))) : H1[q]? = some (vp_cell cA (ln, .inl (upd f k v))) := by
  rw [e, vp_cell_i, vp_cell_i, arrV_store]
  congr 2
  funext j
  by_cases hj : j = k
  · subst hj
    simp [updV, upd]
  · simp [updV, upd, hj]
theorem hk_iast (F : CallFix p m c cc nL s args hk_W own) (G : hk_GG g E S n s H locs) {a ln j : Nat} {i x : Int32} (ha : E.2.1 a = 13) (hn : E.2.2.1 a = ln) (hin : vp_in i ln) (hj : i.toNatClampNeg = j) (hdg : decode cc pc = .ok (.iastore, 1))
    (kk : ∀ (H1 : Heap) (locs1 : List Loc), hk_GG g E (hk_up S a j x) n s H1 locs1 → W p l e R s m args below meth c H1 locs1 cells slots Q (F0 m (pc + 1) ls rest)) : W p l e R s m args below meth c H locs cells slots Q (F0 m pc ls (.int x :: .int i :: .ref (g.1 + a) :: rest)) := by
  subst hj
  have hP := G.1.1.one ha (by decide)
  rw [hk_cell_i (t := 2) (by decide), hn] at hP
  refine W.iast F.1 F.2.1 (hP 0 _ rfl) ((G.1.2.2.2 2 _ rfl).1 ln (fun j => .int (S a j))) (fun q => by cases q) (by show ¬ (i < 0 ∨ (arrV _ _ _).slots.size ≤ _); rw [arrV_size]; exact hin) rfl rfl hdg fun H1 e1 z o => ?_
  refine kk H1 _ (hk_stored G ha (by decide) z o ?_)
  rw [hk_cell_i (t := 2) (by decide), hn]
  exact hk_cellst e1
theorem hk_narB (x : Int32) : narrow .byte (.int x) = .int x.toInt8.toInt32 := rfl
theorem hk_bast (F : CallFix p m c cc nL s args hk_W own) (G : hk_GG g E S n s H locs) {a ln j : Nat} {i x : Int32} (ha : E.2.1 a = 11) (hn : E.2.2.1 a = ln) (hin : vp_in i ln) (hj : i.toNatClampNeg = j) (hdg : decode cc pc = .ok (.bastore, 1))
    (kk : ∀ (H1 : Heap) (locs1 : List Loc), hk_GG g E (hk_up S a j x.toInt8.toInt32) n s H1 locs1 → W p l e R s m args below meth c H1 locs1 cells slots Q (F0 m (pc + 1) ls rest)) : W p l e R s m args below meth c H locs cells slots Q (F0 m pc ls (.int x :: .int i :: .ref (g.1 + a) :: rest)) := by
  subst hj
  have hP := G.1.1.one ha (by decide)
  rw [hk_cell_i (t := 0) (by decide), hn] at hP
  refine W.bast F.1 F.2.1 (hP 0 _ rfl) ((G.1.2.2.2 0 _ rfl).1 ln (fun j => .int (S a j))) (fun q => by cases q) (by show ¬ (i < 0 ∨ (arrV _ _ _).slots.size ≤ _); rw [arrV_size]; exact hin) rfl rfl hdg fun H1 e1 z o => ?_
  rw [hk_narB] at e1
  refine kk H1 _ (hk_stored G ha (by decide) z o ?_)
  rw [hk_cell_i (t := 0) (by decide), hn]
  exact hk_cellst e1
/-- the method's end: what its caller gets -/
theorem hk_end (G : hk_GG g E S n s H locs) {v : Option Value} {t : State} (ht : t.heap = H) (hW : s.WarmedH t.vm) : hk_Q g E S n v args s (.returned v) t := by
  obtain ⟨⟨hH, hsz, hK⟩, hS, hZ, hg⟩ := G
  exact ⟨rfl, ⟨by rw [ht]; exact hH, by rw [ht]; exact hsz, va_K.moved hW.alike hK⟩, hS.F ht⟩
/-- a callee's start -/
theorem hk_pre (G : hk_GG g E S n s H locs) (av : List Value) : ∀ U : State, U.heap = H → s.WarmedH U.vm → hk_Pc g E S n av av.toArray U := by
  intro U hU hW
  obtain ⟨⟨hH, hsz, hK⟩, hS, hZ, hg⟩ := G
  exact ⟨rfl, ⟨by rw [hU]; exact hH, by rw [hU]; exact hsz, va_K.moved hW.alike hK⟩, by rw [hU]; exact (hZ.kept hS.2.1).warm hW, by rw [hU]; exact Nat.le_trans hg hS.1⟩
/-- behind a call -/
theorem hk_call {g0 : JFrame} {mc ms : Nat} {a : Array Value} {v : Option Value} {E1 : hk_E} {S1 : hk_S} {n1 : Nat} (hr : va_Run p l e R s m args below meth c H locs cells slots mc ms g0 rest (hk_Q g E1 S1 n1 v a) (hk_A g)) (G : hk_GG g E S n s H locs)
    (kk : ∀ (H1 : Heap) (locs1 : List Loc), hk_GG g E1 S1 n1 s H1 locs1 → W p l e R s m args below meth c H1 locs1 (cells + mc) (slots + ms) Q { g0 with pc := g0.pc + 3, stack := v.toList ++ rest }) : W p l e R s m args below meth c H locs cells slots Q g0 := by
  intro T hT X
  obtain ⟨v', st0, t, T', L, h0, X', hL, e1, e2, ⟨hv, ⟨hH, hsz, hK⟩, hz, hk⟩, st⟩ := hr T hT X
  cases hv
  rw [h0] at hz hk
  obtain ⟨-, hS, hZ, hg⟩ := G
  obtain ⟨t2, a1, b1⟩ := kk T'.heap (locs ++ L) ⟨⟨by rw [e1]; exact hH, by rw [e1]; exact hsz, va_K.moved (by rw [← e2]; exact X'.warmed.alike.symm) hK⟩, ⟨Nat.le_trans hS.1 (by rw [e1]; exact hz), fun q h1 h2 => by rw [e1, hk q (Nat.lt_of_lt_of_le h1 hS.1) h2]; exact hS.2.1 q h1 h2, fun q hq => by
      rcases List.mem_append.mp hq with h | h
      · exact hS.2.2 q h
      · exact hL q h⟩, hZ, hg⟩ T' rfl X'
  exact ⟨t2, st t2 a1, b1⟩
/-- a method's words -/
abbrev hk_ws (y : MethodName) (b : ByteArray) (maxL : Nat) (ret : Option FieldType) : List Cond := .code y b maxL ret :: hk_W
theorem hk_in {y : MethodName} {b : ByteArray} {maxL : Nat} {ret : Option FieldType} {w : Cond} (h : w ∈ hk_W) : w ∈ hk_ws y b maxL ret := List.mem_cons_of_mem _ h
theorem hk_goodws {y : MethodName} {b : ByteArray} {maxL : Nat} {ret : Option FieldType} (h : Cond.code y b maxL ret ∈ hk_W) : GoodIn hk_W (hk_ws y b maxL ret) := by
  intro w hw
  have hw2 : w ∈ hk_W := by
    rcases List.mem_cons.mp hw with q | q
    · rw [q]; exact h
    · exact q
  exact ⟨hw2, hk_good w hw2⟩
/-- the words of a call of an instance method -/
def hk_yV (own : String) (index : Nat) (y : MethodName) (b : ByteArray) (maxL : Nat) (ret : Option FieldType) (np : Nat) : Prop :=
  Cond.code y b maxL ret ∈ hk_W ∧ Cond.methodLink own index y ∈ hk_W ∧ Cond.instanceMethod y ∈ hk_W ∧ Cond.selects y.cls y y ∈ hk_W ∧ Cond.initialized y.cls ∈ hk_W ∧ (y.cls ≠ "java/lang/invoke/MethodHandle" ∧ y.cls ≠ "java/lang/invoke/VarHandle" ∧ (parseMethodDescriptor y.desc).map (fun d => d.parameters.length) = some np)
def hk_yS (own : String) (index : Nat) (y : MethodName) (b : ByteArray) (maxL : Nat) (ret : Option FieldType) (np : Nat) : Prop :=
  Cond.code y b maxL ret ∈ hk_W ∧ Cond.methodLink own index y ∈ hk_W ∧ Cond.static y ∈ hk_W ∧ Cond.initialized y.cls ∈ hk_W ∧ (y.cls ≠ "java/lang/invoke/MethodHandle" ∧ y.cls ≠ "java/lang/invoke/VarHandle" ∧ (parseMethodDescriptor y.desc).map (fun d => d.parameters.length) = some np)
theorem hk_recv (G : hk_GG g E S n s H locs) {a ci N : Nat} {C : String} {T : u_T} {ty : Nat → FieldType} (ha : E.2.1 a = ci + 1) (hc : hk_cls ci C T N ty) : ∃ cell : Cell, H[g.1 + a]? = some cell ∧ cell.vm.isStatics = false ∧ s.vm.findClass C = some cell.cls := by
  have hP := G.1.1.one ha (Nat.succ_ne_zero ci)
  rw [hk_cell_o hc.1] at hP
  exact va_recv (q := (C, T, N)) G.1.2.2 hP hc.2.1 (q0 := 0) rfl
theorem hk_callV (F : CallFix p m c cc nL s args hk_W own) (G : hk_GG g E S n s H locs) {a ci N index np maxL mc ms : Nat} {C : String} {T : u_T} {ty : Nat → FieldType} {y : MethodName} {b : ByteArray} {ret : Option FieldType} {rm : Room} {v : Option Value} {E1 : hk_E} {S1 : hk_S} {n1 : Nat} {As st : List Value} (ha : E.2.1 a = ci + 1) (hc : hk_cls ci C T N ty) (hyC : y.cls = C)
    (hM : Met l y (hk_ws y b maxL ret) rm (hk_Pc g E S n (.ref (g.1 + a) :: As)) (hk_Q g E1 S1 n1 v) mc ms (hk_A g)) (hy : hk_yV own index y b maxL ret np) (hrm : rm.cells = mc ∧ rm.slots = ms ∧ rm.frames + 1 ≤ R.frames ∧ 8 + (maxL + 11) + rm.locals ≤ R.locals) (hn : As.length = np) (hL : ls.size = nL) (hst : st = As.reverse ++ .ref (g.1 + a) :: rest) (hrest : (rest.map fun v => v.category).sum ≤ 8) (hf : cells + mc ≤ R.cells ∧ slots + ms ≤ R.slots) (hdg : decode cc pc = .ok (.invokevirtual index, 3))
    (kk : ∀ (H1 : Heap) (locs1 : List Loc), hk_GG g E1 S1 n1 s H1 locs1 → W p l e R s m args below meth c H1 locs1 (cells + mc) (slots + ms) Q (F0 m (pc + 3) ls (v.toList ++ rest))) : W p l e R s m args below meth c H locs cells slots Q (F0 m pc ls st) := by
  obtain ⟨w1, w2, w3, w4, w5, d1, d2, d3⟩ := hy
  subst hyC
  refine hk_call (va_runV (bytes := b) (maxL := maxL) (ret := ret) (As := As) (rest := rest) F hM ⟨?_, F.2.2.2.2 _ w3, F.2.2.2.2 _ w4⟩ ⟨hk_blind, hk_recv G ha hc, hk_pre G _⟩ rfl hn hL hst (lv_room hrest) hdg hf) G kk
  exact callB_of np F.2.2.2.2 (hk_goodws w1) rfl hrm.1 hrm.2.1 (F.2.2.2.2 _ w5) (F.2.2.2.2 _ w2) ⟨d1, d2, d3⟩ hrm.2.2
theorem hk_callS (F : CallFix p m c cc nL s args hk_W own) (G : hk_GG g E S n s H locs) {index np maxL mc ms : Nat} {y : MethodName} {b : ByteArray} {ret : Option FieldType} {rm : Room} {v : Option Value} {E1 : hk_E} {S1 : hk_S} {n1 : Nat} {As st : List Value}
    (hM : Met l y (hk_ws y b maxL ret) rm (hk_Pc g E S n As) (hk_Q g E1 S1 n1 v) mc ms (hk_A g)) (hy : hk_yS own index y b maxL ret np) (hrm : rm.cells = mc ∧ rm.slots = ms ∧ rm.frames + 1 ≤ R.frames ∧ 8 + (maxL + 11) + rm.locals ≤ R.locals) (hn : As.length = np) (hL : ls.size = nL) (hst : st = As.reverse ++ rest) (hrest : (rest.map fun v => v.category).sum ≤ 8) (hf : cells + mc ≤ R.cells ∧ slots + ms ≤ R.slots) (hdg : decode cc pc = .ok (.invokestatic index, 3))
    (kk : ∀ (H1 : Heap) (locs1 : List Loc), hk_GG g E1 S1 n1 s H1 locs1 → W p l e R s m args below meth c H1 locs1 (cells + mc) (slots + ms) Q (F0 m (pc + 3) ls (v.toList ++ rest))) : W p l e R s m args below meth c H locs cells slots Q (F0 m pc ls st) := by
  obtain ⟨w1, w2, w3, w5, d1, d2, d3⟩ := hy
  refine hk_call (va_runS (bytes := b) (maxL := maxL) (ret := ret) (As := As) (rest := rest) F hM ⟨?_, F.2.2.2.2 _ w3⟩ ⟨hk_blind, hk_pre G _⟩ rfl hn hL hst (lv_room hrest) hdg hf) G kk
  exact callB_of np F.2.2.2.2 (hk_goodws w1) rfl hrm.1 hrm.2.1 (F.2.2.2.2 _ w5) (F.2.2.2.2 _ w2) ⟨d1, d2, d3⟩ hrm.2.2
theorem hk_callVi (F : CallFix p m c cc nL s args hk_W own) (G : hk_GG g E S n s H locs) {a ci N index np maxL : Nat} {C : String} {T : u_T} {ty : Nat → FieldType} {y : MethodName} {b : ByteArray} {ret : Option FieldType} {rm : Room} {v : Int32} {E1 : hk_E} {S1 : hk_S} {n1 : Nat} {As st : List Value} (ha : E.2.1 a = ci + 1) (hc : hk_cls ci C T N ty) (hyC : y.cls = C)
    (hM : Met l y (hk_ws y b maxL ret) rm (hk_Pc g E S n (.ref (g.1 + a) :: As)) (hk_Q g E1 S1 n1 (some (.int v))) 0 0 (hk_A g)) (hy : hk_yV own index y b maxL ret np) (hrm : rm.cells = 0 ∧ rm.slots = 0 ∧ rm.frames + 1 ≤ R.frames ∧ 8 + (maxL + 11) + rm.locals ≤ R.locals) (hn : As.length = np) (hL : ls.size = nL) (hst : st = As.reverse ++ .ref (g.1 + a) :: rest) (hrest : (rest.map fun v => v.category).sum ≤ 8) (hf : cells ≤ R.cells ∧ slots ≤ R.slots) (hdg : decode cc pc = .ok (.invokevirtual index, 3))
    (kk : ∀ (H1 : Heap) (locs1 : List Loc), hk_GG g E1 S1 n1 s H1 locs1 → W p l e R s m args below meth c H1 locs1 cells slots Q (F0 m (pc + 3) ls (.int v :: rest))) : W p l e R s m args below meth c H locs cells slots Q (F0 m pc ls st) :=
  hk_callV F G ha hc hyC hM hy hrm hn hL hst hrest hf hdg kk
theorem hk_callVv (F : CallFix p m c cc nL s args hk_W own) (G : hk_GG g E S n s H locs) {a ci N index np maxL : Nat} {C : String} {T : u_T} {ty : Nat → FieldType} {y : MethodName} {b : ByteArray} {ret : Option FieldType} {rm : Room} {E1 : hk_E} {S1 : hk_S} {n1 : Nat} {As st : List Value} (ha : E.2.1 a = ci + 1) (hc : hk_cls ci C T N ty) (hyC : y.cls = C)
    (hM : Met l y (hk_ws y b maxL ret) rm (hk_Pc g E S n (.ref (g.1 + a) :: As)) (hk_Q g E1 S1 n1 none) 0 0 (hk_A g)) (hy : hk_yV own index y b maxL ret np) (hrm : rm.cells = 0 ∧ rm.slots = 0 ∧ rm.frames + 1 ≤ R.frames ∧ 8 + (maxL + 11) + rm.locals ≤ R.locals) (hn : As.length = np) (hL : ls.size = nL) (hst : st = As.reverse ++ .ref (g.1 + a) :: rest) (hrest : (rest.map fun v => v.category).sum ≤ 8) (hf : cells ≤ R.cells ∧ slots ≤ R.slots) (hdg : decode cc pc = .ok (.invokevirtual index, 3))
    (kk : ∀ (H1 : Heap) (locs1 : List Loc), hk_GG g E1 S1 n1 s H1 locs1 → W p l e R s m args below meth c H1 locs1 cells slots Q (F0 m (pc + 3) ls rest)) : W p l e R s m args below meth c H locs cells slots Q (F0 m pc ls st) :=
  hk_callV F G ha hc hyC hM hy hrm hn hL hst hrest hf hdg kk
theorem hk_callVr (F : CallFix p m c cc nL s args hk_W own) (G : hk_GG g E S n s H locs) {a ci N index np maxL : Nat} {C : String} {T : u_T} {ty : Nat → FieldType} {y : MethodName} {b : ByteArray} {ret : Option FieldType} {rm : Room} {v : Nat} {E1 : hk_E} {S1 : hk_S} {n1 : Nat} {As st : List Value} (ha : E.2.1 a = ci + 1) (hc : hk_cls ci C T N ty) (hyC : y.cls = C)
    (hM : Met l y (hk_ws y b maxL ret) rm (hk_Pc g E S n (.ref (g.1 + a) :: As)) (hk_Q g E1 S1 n1 (some (.ref (g.1 + v)))) 0 0 (hk_A g)) (hy : hk_yV own index y b maxL ret np) (hrm : rm.cells = 0 ∧ rm.slots = 0 ∧ rm.frames + 1 ≤ R.frames ∧ 8 + (maxL + 11) + rm.locals ≤ R.locals) (hn : As.length = np) (hL : ls.size = nL) (hst : st = As.reverse ++ .ref (g.1 + a) :: rest) (hrest : (rest.map fun v => v.category).sum ≤ 8) (hf : cells ≤ R.cells ∧ slots ≤ R.slots) (hdg : decode cc pc = .ok (.invokevirtual index, 3))
    (kk : ∀ (H1 : Heap) (locs1 : List Loc), hk_GG g E1 S1 n1 s H1 locs1 → W p l e R s m args below meth c H1 locs1 cells slots Q (F0 m (pc + 3) ls (.ref (g.1 + v) :: rest))) : W p l e R s m args below meth c H locs cells slots Q (F0 m pc ls st) :=
  hk_callV F G ha hc hyC hM hy hrm hn hL hst hrest hf hdg kk
theorem hk_callSi (F : CallFix p m c cc nL s args hk_W own) (G : hk_GG g E S n s H locs) {index np maxL : Nat} {y : MethodName} {b : ByteArray} {ret : Option FieldType} {rm : Room} {v : Int32} {E1 : hk_E} {S1 : hk_S} {n1 : Nat} {As st : List Value}
    (hM : Met l y (hk_ws y b maxL ret) rm (hk_Pc g E S n As) (hk_Q g E1 S1 n1 (some (.int v))) 0 0 (hk_A g)) (hy : hk_yS own index y b maxL ret np) (hrm : rm.cells = 0 ∧ rm.slots = 0 ∧ rm.frames + 1 ≤ R.frames ∧ 8 + (maxL + 11) + rm.locals ≤ R.locals) (hn : As.length = np) (hL : ls.size = nL) (hst : st = As.reverse ++ rest) (hrest : (rest.map fun v => v.category).sum ≤ 8) (hf : cells ≤ R.cells ∧ slots ≤ R.slots) (hdg : decode cc pc = .ok (.invokestatic index, 3))
    (kk : ∀ (H1 : Heap) (locs1 : List Loc), hk_GG g E1 S1 n1 s H1 locs1 → W p l e R s m args below meth c H1 locs1 cells slots Q (F0 m (pc + 3) ls (.int v :: rest))) : W p l e R s m args below meth c H locs cells slots Q (F0 m pc ls st) :=
  hk_callS F G hM hy hrm hn hL hst hrest hf hdg kk
theorem hk_callSv (F : CallFix p m c cc nL s args hk_W own) (G : hk_GG g E S n s H locs) {index np maxL : Nat} {y : MethodName} {b : ByteArray} {ret : Option FieldType} {rm : Room} {E1 : hk_E} {S1 : hk_S} {n1 : Nat} {As st : List Value}
    (hM : Met l y (hk_ws y b maxL ret) rm (hk_Pc g E S n As) (hk_Q g E1 S1 n1 none) 0 0 (hk_A g)) (hy : hk_yS own index y b maxL ret np) (hrm : rm.cells = 0 ∧ rm.slots = 0 ∧ rm.frames + 1 ≤ R.frames ∧ 8 + (maxL + 11) + rm.locals ≤ R.locals) (hn : As.length = np) (hL : ls.size = nL) (hst : st = As.reverse ++ rest) (hrest : (rest.map fun v => v.category).sum ≤ 8) (hf : cells ≤ R.cells ∧ slots ≤ R.slots) (hdg : decode cc pc = .ok (.invokestatic index, 3))
    (kk : ∀ (H1 : Heap) (locs1 : List Loc), hk_GG g E1 S1 n1 s H1 locs1 → W p l e R s m args below meth c H1 locs1 cells slots Q (F0 m (pc + 3) ls rest)) : W p l e R s m args below meth c H locs cells slots Q (F0 m pc ls st) :=
  hk_callS F G hM hy hrm hn hL hst hrest hf hdg kk
/-- a number on top of the stack gets a name -/
theorem hk_top {x y : Int32} (h : x = y) (k : W p l e R s m args below meth c H locs cells slots Q (F0 m pc ls (.int y :: rest))) : W p l e R s m args below meth c H locs cells slots Q (F0 m pc ls (.int x :: rest)) := by
  subst h
  exact k
end HKR
abbrev hk_ok (i : Int32) (n : Nat) : Prop := ¬ (i < 0 ∨ n ≤ i.toNatClampNeg)
def hk_let {α β : Type} (x : α) (f : α → Option β) : Option β := f x
theorem hk_l {α β : Type} {x : α} {f : α → Option β} {o : β} (h : hk_let x f = some o) : ∃ y, x = y ∧ f y = some o := ⟨x, rfl, h⟩
theorem hk_sw {x : Int32} {lo : Int} {n : Nat} (h : ∀ k : Nat, k < n → ¬ x = Int32.ofInt (lo + k)) : x.toInt < lo ∨ lo + n - 1 < x.toInt := by
  rcases Int.lt_or_le x.toInt lo with q | q
  · exact Or.inl q
  · refine Or.inr ?_
    apply Classical.byContradiction
    intro z
    refine h (x.toInt - lo).toNat (by omega) ?_
    rw [show lo + ((x.toInt - lo).toNat : Int) = x.toInt by omega, Int32.ofInt_toInt]
/-- out of an Option's chain -/
theorem hk_b {α β : Type} {x : Option α} {f : α → Option β} {o : β} (h : x.bind f = some o) : ∃ a, x = some a ∧ f a = some o := by
  cases x with
  | none => cases h
  | some a => exact ⟨a, rfl, h⟩
theorem hk_t {α : Type} {c : Prop} [Decidable c] {a b o : α} (h : c) (e : (if c then a else b) = o) : a = o := by rw [if_pos h] at e; exact e
theorem hk_f {α : Type} {c : Prop} [Decidable c] {a b o : α} (h : ¬ c) (e : (if c then a else b) = o) : b = o := by rw [if_neg h] at e; exact e
/-- a check -/
theorem hk_k {α : Type} {c : Prop} [Decidable c] {a : Option α} {o : α} (e : (if c then a else none) = some o) : c ∧ a = some o := by
  by_cases h : c
  · rw [if_pos h] at e; exact ⟨h, e⟩
  · rw [if_neg h] at e; cases e
theorem hk_s {α : Type} {a o : α} (e : some a = some o) : a = o := Option.some.inj e
theorem hk_z {v : Int32} (h : v = 0 ∨ v = 1) : narrow .boolean (.int v) = .int v ∧ fits .boolean (.int v) = true := by
  rcases h with h | h <;> subst h <;> exact ⟨by decide +kernel, by decide +kernel⟩
theorem hk_g {α : Type} {c : Prop} [Decidable c] {a b o : α} (h : c) (e : (if ¬ c then a else b) = o) : b = o := by rw [if_neg (fun z => z h)] at e; exact e
end
section
section HKS
variable {p : Program} {l : Launch} {e : Env} {R : Room} {s : State} {m : MethodId} {args : Array Value} {below : List Frame} {meth : Method} {c : Code} {H : Heap} {locs : List Loc} {cells slots : Nat} {Q : State → Prop}
variable {cc : ByteArray} {nL pc : Nat} {ls : Array Slot} {rest : List Value} {own : String} {g : hk_G} {E : hk_E} {S : hk_S} {n : Nat}
theorem hk_en_ref {ad : Nat → Nat} {x : Int32} (h : ¬ x < 0) : hk_en ad x = .ref (ad x.toNatClampNeg) := by
  unfold hk_en
  rw [if_neg h]
theorem hk_en_null {ad : Nat → Nat} {x : Int32} (h : x < 0) : hk_en ad x = .null := by
  unfold hk_en
  rw [if_pos h]
theorem hk_en_cat (ad : Nat → Nat) (x : Int32) : (hk_en ad x).category = 1 := by
  unfold hk_en
  by_cases h : x < 0
  · rw [if_pos h]; rfl
  · rw [if_neg h]; rfl
theorem hk_en_or (ad : Nat → Nat) (x : Int32) : hk_en ad x = .null ∨ ∃ a, hk_en ad x = .ref a := by
  by_cases h : x < 0
  · exact Or.inl (hk_en_null h)
  · exact Or.inr ⟨_, hk_en_ref h⟩
theorem hk_topl {x y : Int64} (h : x = y) (k : W p l e R s m args below meth c H locs cells slots Q (F0 m pc ls (.long y :: rest))) : W p l e R s m args below meth c H locs cells slots Q (F0 m pc ls (.long x :: rest)) := by
  subst h
  exact k
theorem hk_getEND (F : CallFix p m c cc nL s args hk_W own) (G : hk_GG g E S n s H locs) {index : Nat} (hl : Cond.fieldLink own index "WitheringLoft$Token" "END" "LWitheringLoft$Token;" ∈ hk_W) (hdg : decode cc pc = .ok (.getstatic index, 3))
    (kk : W p l e R s m args below meth c H locs cells slots Q (F0 m (pc + 3) ls (hk_en (g.2.2.2 2) 5 :: rest))) : W p l e R s m args below meth c H locs cells slots Q (F0 m pc ls rest) := by
  rw [hk_en_ref (by decide)] at kk
  exact va_gets F.1 F.2.1 G.2.2.1.1 G.2.1 F.2.2.2.1 (F.2.2.2.2 _ hl) (fun _ h => h) hdg kk
theorem hk_pushE {w w' : Value} (h : w' = w) (kk : W p l e R s m args below meth c H locs cells slots Q (F0 m pc ls (w :: rest))) : W p l e R s m args below meth c H locs cells slots Q (F0 m pc ls (w' :: rest)) := by
  subst h
  exact kk
theorem hk_putE (F : CallFix p m c cc nL s args hk_W own) (G : hk_GG g E S n s H locs) {a ci N k index : Nat} {C : String} {T : u_T} {ty : Nat → FieldType} {v : Int32} {nm : String} (ha : E.2.1 a = ci + 1) (hc : hk_cls ci C T N ty) (hk : k < N) (hl : Cond.fieldLink own index (T k).1 (T k).2.1 (T k).2.2.1 ∈ hk_W) (hs : hk_sort ci k = 2) (hfin : (T k).2.2.2 = false) (hd : parseFieldDescriptor (T k).2.2.1 = some (.object nm)) (hdg : decode cc pc = .ok (.putfield index, 3))
    (kk : ∀ (H1 : Heap) (locs1 : List Loc), hk_GG g E (hk_up S a k v) n s H1 locs1 → W p l e R s m args below meth c H1 locs1 cells slots Q (F0 m (pc + 3) ls rest)) : W p l e R s m args below meth c H locs cells slots Q (F0 m pc ls (hk_en (g.2.2.2 2) v :: .ref (g.1 + a) :: rest)) := by
  refine hk_put F G ha hc hk hl hfin hd ?_ ?_ (hk_flds_put (by rw [hc.2.2.1]; exact hk) (by unfold hk_fld; rw [hs, pk_us]; rfl)) hdg kk
  · by_cases h : v < 0
    · rw [hk_en_null h]; rfl
    · rw [hk_en_ref h]; rfl
  · by_cases h : v < 0
    · rw [hk_en_null h]; rfl
    · rw [hk_en_ref h]; rfl
theorem hk_callSNi (F : CallFix p m c cc nL s args hk_W own) (G : hk_GG g E S n s H locs) {index np maxL : Nat} {y : MethodName} {host : String} {b : ByteArray} {ret : Option FieldType} {rm : Room} {v : Int32} {E1 : hk_E} {S1 : hk_S} {n1 : Nat} {As st : List Value}
    (hM : Met l y (hk_ws y b maxL ret) rm (hk_Pc g E S n As) (hk_Q g E1 S1 n1 (some (.int v))) 0 0 (hk_A g)) (hy : (own, index, y, host) ∈ hk_nest ∧ Cond.code y b maxL ret ∈ hk_W ∧ Cond.static y ∈ hk_W ∧ Cond.initialized y.cls ∈ hk_W ∧ (y.cls ≠ "java/lang/invoke/MethodHandle" ∧ y.cls ≠ "java/lang/invoke/VarHandle" ∧ (parseMethodDescriptor y.desc).map (fun d => d.parameters.length) = some np)) (hrm : rm.cells = 0 ∧ rm.slots = 0 ∧ rm.frames + 1 ≤ R.frames ∧ 8 + (maxL + 11) + rm.locals ≤ R.locals) (hn : As.length = np) (hL : ls.size = nL) (hst : st = As.reverse ++ rest) (hrest : (rest.map fun v => v.category).sum ≤ 8) (hf : cells ≤ R.cells ∧ slots ≤ R.slots) (hdg : decode cc pc = .ok (.invokestatic index, 3))
    (kk : ∀ (H1 : Heap) (locs1 : List Loc), hk_GG g E1 S1 n1 s H1 locs1 → W p l e R s m args below meth c H1 locs1 cells slots Q (F0 m (pc + 3) ls (.int v :: rest))) : W p l e R s m args below meth c H locs cells slots Q (F0 m pc ls st) := by
  obtain ⟨w0, w1, w3, w5, d⟩ := hy
  have hnest := G.2.2.1.2.1 _ w0
  exact hk_call (va_runSN (As := As) (rest := rest) F hM ⟨va_cnB (host := host) np F.2.2.2.2 (hk_goodws w1) rfl hrm.1 hrm.2.1 hnest (F.2.2.2.2 _ w5) d hrm.2.2, F.2.2.2.2 _ w3, trivial⟩ ⟨hk_blind, hk_pre G _⟩ rfl hn hL hst (lv_room hrest) hdg hf) G kk
end HKS
theorem hk_outs {x : Int32} {lo hi : Int} {n : Nat} {L : List Int32} (h : ∀ y ∈ L, ¬ x = y) (hL : (List.range n).all (fun k => L.contains (Int32.ofInt (lo + (k : Int)))) = true) (hh : lo + (n : Int) - 1 = hi) : x.toInt < lo ∨ hi < x.toInt := by
  rw [← hh]
  refine hk_sw (fun k hk e => ?_)
  have h1 := List.all_eq_true.mp hL k (List.mem_range.mpr hk)
  exact h _ (List.contains_iff_mem.mp h1) e
end
section
/-! Objects and arrays that are made: one place more; a reference is set. -/
def hk_grow (E E1 : hk_E) (kd ln : Nat) : Prop := E1.1 = E.1 + 1 ∧ E1.2.1 E.1 = kd ∧ E1.2.2.1 E.1 = ln ∧ E1.2.2.2 E.1 = (fun _ => none) ∧ ∀ a, a ≠ E.1 → E1.2.1 a = E.2.1 a ∧ E1.2.2.1 a = E.2.2.1 a ∧ E1.2.2.2 a = E.2.2.2 a
def hk_set (E E1 : hk_E) (a k r : Nat) : Prop := E1.1 = E.1 ∧ E1.2.1 = E.2.1 ∧ E1.2.2.1 = E.2.2.1 ∧ E1.2.2.2 a = va_up (E.2.2.2 a) k (some r) ∧ ∀ b, b ≠ a → E1.2.2.2 b = E.2.2.2 b
/-- the first values of an object's fields -/
def hk_i0 (ci : Nat) : Nat → Int32 := fun k => if hk_sort ci k = 2 then -1 else 0
theorem hk_dv {g : hk_G} {ci j : Nat} (h2 : hk_sort ci j ≤ 2) : hk_fld g ci j (hk_i0 ci) (fun _ => none) = if hk_sort ci j = 0 then .int 0 else .null := by
  unfold hk_fld hk_i0
  by_cases h0 : hk_sort ci j = 0
  · rw [if_pos h0, if_pos h0, if_neg (by rw [h0]; decide)]
  · rw [if_neg h0, if_neg h0]
    by_cases h1 : hk_sort ci j = 1
    · rw [if_pos h1]; rfl
    · rw [if_neg h1, if_pos (by omega)]
      exact hk_en_null (by decide)
/-- the heap with one thing more -/
theorem hk_H.grow {g : hk_G} {E E1 : hk_E} {S : hk_S} {H H1 : Heap} {kd ln : Nat} {I : Nat → Int32} (h : hk_H g E S H) (hq : H.size = g.1 + E.1) (hE : hk_grow E E1 kd ln) (z : H1.size = H.size + 1) (o : ∀ q : Nat, q < H.size → H1[q]? = H[q]?) (hn : va_at g.2.1 vwCl (g.1 + E.1, hk_cell g kd ln I (fun _ => none)) H1) : hk_H g E1 (va_up S E.1 I) H1 := by
  obtain ⟨e1, e2, e3, e4, e5⟩ := hE
  refine ⟨by rw [e1, z]; omega, fun a ha => ?_⟩
  by_cases hae : a = E.1
  · subst hae
    rw [e1]
    refine ⟨Nat.lt_succ_self _, ?_⟩
    rw [e2, e3, e4, va_up_self]
    exact hn
  · obtain ⟨f1, f2, f3⟩ := e5 a hae
    rw [f1] at ha ⊢
    have h2 := h.2 a ha
    rw [f2, f3, va_up_ne _ _ hae, e1]
    exact ⟨Nat.lt_succ_of_lt h2.1, h2.2.kept (o _ (by omega))⟩
theorem hk_H.setR {g : hk_G} {E E1 : hk_E} {S : hk_S} {H H1 : Heap} {a k r kd : Nat} (h : hk_H g E S H) (hE : hk_set E E1 a k r) (hk : E.2.1 a = kd) (hz : H1.size = H.size) (o : ∀ q : Nat, q ≠ g.1 + a → H1[q]? = H[q]?) (hn : va_at g.2.1 vwCl (g.1 + a, hk_cell g kd (E.2.2.1 a) (S a) (va_up (E.2.2.2 a) k (some r))) H1) : hk_H g E1 S H1 := by
  obtain ⟨e1, e2, e3, e4, e5⟩ := hE
  refine ⟨by rw [e1, hz]; exact h.1, fun b hb => ?_⟩
  rw [e2] at hb ⊢
  refine ⟨by rw [e1]; exact (h.2 b hb).1, ?_⟩
  rw [e3]
  by_cases hba : b = a
  · subst hba
    rw [hk, e4]
    exact hn
  · rw [e5 b hba]
    exact (h.2 b hb).2.kept (o (g.1 + b) (by omega))
section HKC
variable {p : Program} {l : Launch} {e : Env} {R : Room} {s : State} {m : MethodId} {args : Array Value} {below : List Frame} {meth : Method} {c : Code} {H : Heap} {locs : List Loc} {cells slots : Nat} {Q : State → Prop}
variable {cc : ByteArray} {nL pc : Nat} {ls : Array Slot} {rest : List Value} {own : String} {g : hk_G} {E E1 : hk_E} {S : hk_S} {n : Nat}
theorem hk_gg1 {kd ln : Nat} {I : Nat → Int32} {H1 : Heap} (G : hk_GG g E S n s H locs) (hn : n = g.1 + E.1) (hE : hk_grow E E1 kd ln) (z : H1.size = H.size + 1) (o : ∀ q : Nat, q < H.size → H1[q]? = H[q]?) (ha : va_at g.2.1 vwCl (g.1 + E.1, hk_cell g kd ln I (fun _ => none)) H1) : hk_GG g E1 (va_up S E.1 I) (g.1 + E1.1) s H1 locs := by
  obtain ⟨⟨hH, hsz, hK⟩, hS, hZ, hg⟩ := G
  have hq : H.size = g.1 + E.1 := hsz.trans hn
  refine ⟨⟨hH.grow hq hE z o ha, by rw [z, hE.1, hq]; omega, hK⟩, ⟨Nat.le_trans hS.1 (by omega), fun x h1 h2 => (o x (Nat.lt_of_lt_of_le h1 hS.1)).trans (hS.2.1 x h1 h2), hS.2.2⟩, hZ, hg⟩
theorem hk_new (F : CallFix p m c cc nL s args hk_W own) (G : hk_GG g E S n s H locs) (hn : n = g.1 + E.1) {a b : Nat} (hab : E.1 = a ∧ E1.1 = b) {ci N index : Nat} {C : String} {T : u_T} {ty : Nat → FieldType} (hc : hk_cls ci C T N ty) (hd : ∀ j, j < N → defaultValue (ty j) = (if hk_sort ci j = 0 then .int 0 else .null) ∧ hk_sort ci j ≤ 2) (hE : hk_grow E E1 (ci + 1) 0) (hcl : Cond.classLink own index C ∈ hk_W) (hinst : Cond.instantiable C N ∈ hk_W) (hini : Cond.initialized C ∈ hk_W) (hf : cells + 1 ≤ R.cells ∧ slots + N ≤ R.slots) (hdg : decode cc pc = .ok (.new index, 3))
    (kk : ∀ H1 : Heap, hk_GG g E1 (va_up S a (hk_i0 ci)) (g.1 + b) s H1 locs → W p l e R s m args below meth c H1 locs (cells + 1) (slots + N) Q (F0 m (pc + 3) ls (.ref (g.1 + a) :: rest))) : W p l e R s m args below meth c H locs cells slots Q (F0 m pc ls rest) := by
  obtain ⟨rfl, rfl⟩ := hab
  obtain ⟨hx, hb, hml, hown, hts⟩ := F
  obtain ⟨c1, c2, c3, c4, c5, c6⟩ := hc
  have hKn := G.1.2.2.1 ci _ c2
  have hq : H.size = g.1 + E.1 := G.1.2.1.trans hn
  refine W.newcK hx hb hown (hts _ hcl) (hts _ hinst) (hts _ hini) rfl hdg hf.1 hf.2 hKn.2.1 hq fun H1 kC hkC e1 z1 o1 => ?_
  refine kk H1 (hk_gg1 G hn hE (by rw [hq]; exact z1) (fun q h => o1 q (by omega)) ?_)
  rw [hk_cell_o c1]
  refine ⟨_, c2, (u_born ty hts c4 hKn hkC e1 c5).to fun j hj => ?_⟩
  show defaultValue (ty j) = (hk_flds g ci (hk_i0 ci) (fun _ => none)).getD j .null
  rw [List.getD_eq_getElem?_getD, hk_flds_get (by rw [c3]; exact hj), (hd j hj).1, hk_dv (hd j hj).2]
  rfl
/-- an array of numbers -/
theorem hk_newA (F : CallFix p m c cc nL s args hk_W own) (G : hk_GG g E S n s H locs) (hn : n = g.1 + E.1) {a b : Nat} (hab : E.1 = a ∧ E1.1 = b) {atype : ArrayType} {ft : FieldType} {t ln : Nat} {x : Int32} {cA : ClassId} (hft : newarray.typeOf atype = ft) (hobj : ∀ C, ft ≠ .object C) (hty : (hk_tys g)[t]? = some (cA, ft)) {kd : Nat} (hcell : ∀ I : Nat → Int32, (∀ j, I j = 0) → hk_cell g kd ln I (fun _ => none) = .inl (cA, (ln, if ft = .long then .inr (.inl (fun j => (I j).toInt64)) else .inl I)))
    (hdef : defaultValue ft = (if ft = .long then .long 0 else .int 0)) (hE : hk_grow E E1 kd ln) (harr : Cond.arrayClass ft ∈ hk_W) (h0 : ¬ x < 0) (hl : x.toNatClampNeg = ln) (hbytes : ln * componentBytes ft ≤ 536870912) (hf : cells + 1 ≤ R.cells ∧ slots + ln ≤ R.slots) (hdg : decode cc pc = .ok (.newarray atype, 2))
    (kk : ∀ H1 : Heap, hk_GG g E1 (va_up S a (fun _ => 0)) (g.1 + b) s H1 locs → W p l e R s m args below meth c H1 locs (cells + 1) (slots + ln) Q (F0 m (pc + 2) ls (.ref (g.1 + a) :: rest))) : W p l e R s m args below meth c H locs cells slots Q (F0 m pc ls (.int x :: rest)) := by
  obtain ⟨rfl, rfl⟩ := hab
  obtain ⟨hx, hb, hml, hown, hts⟩ := F
  have hq : H.size = g.1 + E.1 := G.1.2.1.trans hn
  subst hft
  refine va_newaK hx hb (hts _ harr) rfl hdg rfl h0 hl hbytes hf.1 hf.2 hq fun H1 cB e1 z1 o1 hAr hNm => ?_
  have hcA : cB = cA := by
    have h2 := (G.1.2.2.2 t _ hty).2
    have h3 : s.vm.findClass ("[" ++ (newarray.typeOf atype).toString) = some cA := by
      cases atype <;> exact h2
    exact Option.some.inj (hNm.symm.trans h3)
  subst hcA
  refine kk H1 (hk_gg1 G hn hE (by rw [hq]; exact z1) (fun q h => o1 q (by omega)) ?_)
  rw [hcell (fun _ => 0) (fun _ => rfl)]
  show H1[g.1 + E.1]? = some (vp_cell _ _)
  rw [e1, hdef]
  by_cases hL : newarray.typeOf atype = .long
  · rw [if_pos hL, if_pos hL, vp_cell_l]
    rfl
  · rw [if_neg hL, if_neg hL, vp_cell_i]
/-- an array of references -/
theorem hk_newQ (F : CallFix p m c cc nL s args hk_W own) (G : hk_GG g E S n s H locs) (hn : n = g.1 + E.1) {a b : Nat} (hab : E.1 = a ∧ E1.1 = b) {index t ln : Nat} {x : Int32} {C : String} (ht : t < 3) (hty : (hk_tys g)[t + 3]? = some (g.2.2.1 (t + 3), .object C)) (hover : va_AO C s) (hE : hk_grow E E1 (t + 14) ln) (hcl : Cond.classLink own index C ∈ hk_W) (h0 : ¬ x < 0) (hl : x.toNatClampNeg = ln) (hbytes : ln * 4 ≤ 536870912) (hf : cells + 1 ≤ R.cells ∧ slots + ln ≤ R.slots) (hdg : decode cc pc = .ok (.anewarray index, 3))
    (kk : ∀ H1 : Heap, hk_GG g E1 (va_up S a (fun _ => 0)) (g.1 + b) s H1 locs → W p l e R s m args below meth c H1 locs (cells + 1) (slots + ln) Q (F0 m (pc + 3) ls (.ref (g.1 + a) :: rest))) : W p l e R s m args below meth c H locs cells slots Q (F0 m pc ls (.int x :: rest)) := by
  obtain ⟨rfl, rfl⟩ := hab
  obtain ⟨hx, hb, hml, hown, hts⟩ := F
  have hq : H.size = g.1 + E.1 := G.1.2.1.trans hn
  subst hl
  refine W.anew hx hb hown (hts _ hcl) (va_AO.use hover) rfl hdg rfl h0 hbytes hf.1 hf.2 fun cB kA comp f1 f2 f3 f4 => ?_
  obtain ⟨kA', comp', q1, q2, q3, q4⟩ := (G.1.2.2.2 (t + 3) _ hty).2
  have hcA : cB = g.2.2.1 (t + 3) := Option.some.inj (f1.symm.trans q4)
  subst hcA
  generalize hH1 : H.push ({ cls := g.2.2.1 (t + 3), slots := Array.replicate x.toNatClampNeg .null, vm := .none } : Cell) = H1
  have z1 : H1.size = H.size + 1 := by rw [← hH1, Array.size_push]
  have e1 : H1[g.1 + E.1]? = some (arrV (g.2.2.1 (t + 3)) x.toNatClampNeg (fun _ => .null)) := by rw [← hH1, ← hq, Array.getElem?_push_size, ← arrV_new]
  have o1 : ∀ q : Nat, q < H.size → H1[q]? = H[q]? := fun q h => by rw [← hH1, Array.getElem?_push, if_neg (Nat.ne_of_lt h)]
  have h9 := kk H1 (hk_gg1 (I := fun _ => 0) G hn hE z1 o1 (by
    rw [hk_cell_q ht]
    show H1[g.1 + E.1]? = some (vp_cell _ _)
    rw [e1, vp_cell_q]
    rfl))
  rw [hq]
  exact h9
theorem hk_putR (F : CallFix p m c cc nL s args hk_W own) (G : hk_GG g E S n s H locs) {a ci N k r index : Nat} {C : String} {T : u_T} {ty : Nat → FieldType} {ft : FieldType} (ha : E.2.1 a = ci + 1) (hc : hk_cls ci C T N ty) (hk : k < N) (hl : Cond.fieldLink own index (T k).1 (T k).2.1 (T k).2.2.1 ∈ hk_W) (hs : hk_sort ci k = 1) (hfin : (T k).2.2.2 = true) (hin : meth.name = "<init>") (hdecl : (T k).1 = own) (hd : parseFieldDescriptor (T k).2.2.1 = some ft) (hn : ∀ x, narrow ft (.ref x) = .ref x) (hfit : ∀ x, fits ft (.ref x) = true) (hE : hk_set E E1 a k r) (hdg : decode cc pc = .ok (.putfield index, 3))
    (kk : ∀ (H1 : Heap) (locs1 : List Loc), hk_GG g E1 S n s H1 locs1 → W p l e R s m args below meth c H1 locs1 cells slots Q (F0 m (pc + 3) ls rest)) : W p l e R s m args below meth c H locs cells slots Q (F0 m pc ls (.ref (g.1 + r) :: .ref (g.1 + a) :: rest)) := by
  obtain ⟨hx, hb, hml, hown, hts⟩ := F
  obtain ⟨c1, c2, c3, c4, c5, c6⟩ := hc
  obtain ⟨⟨hH, hsz, hK⟩, hS, hZ, hg⟩ := G
  have hP := hH.one ha (Nat.succ_ne_zero ci)
  rw [hk_cell_o c1] at hP
  have hap := va_apart (own := own) hts c4 ty c5 c6 hK c2
  obtain ⟨r', h1, cell, q1, q2, q3, q4⟩ := hP 0 _ rfl
  have hr : r' = (C, T, N) := Option.some.inj (h1.symm.trans c2)
  subst hr
  obtain ⟨hS0, hfc, kC, hkC, hkind⟩ := hK.1 ci _ c2
  obtain ⟨cf, kf, fi, f, hi, hsl⟩ := hS0 k hk
  have hlay := hts _ (c4 _ (u_in_lay hk))
  unfold u_lay at hlay
  rw [if_pos hfin] at hlay
  have hst := (u_facts hfc hkC (u_lays hts c4 hk) hi).1
  have hcf : m.cls = cf := by
    obtain ⟨_, _, c', _, _, _, -, -, hf', -, -, -, hown2, -⟩ := Cond.laysFinal_spec hlay
    have e1 : c' = cf := by have := hi.symm.trans hf'; simp at this; exact this.1.symm
    rw [hdecl] at hown2
    rw [← e1]; exact Option.some.inj (hown.symm.trans hown2)
  have h6 := u_fits hfc hkC hkind (Or.inr hlay) hi hd (hn (g.1 + r)) (hfit (g.1 + r))
  refine W.putFinK hx hb hown (hts _ hl) hi hst hcf hin (by rw [q2]; exact h6) q1 q3 (by rw [hsl]; exact k2_hasslot (q4 k hk)) rfl rfl hdg fun H' e1 e2 e3 => ?_
  rw [hsl] at e1 ⊢
  refine kk H' _ ⟨⟨hH.setR hE ha e2 e3 ?_, by rw [e2]; exact hsz, hK⟩, hS.put e2 e3 (Nat.le_add_right _ _), hZ, hg⟩
  rw [hk_cell_o c1, ← hk_flds_putR (by rw [c3]; exact hk) hs]
  exact ⟨_, c2, t_OB.to (V := updV (vp_V (hk_flds g ci (S a) (E.2.2.2 a))) k (.ref (g.1 + r))) ⟨_, e1, q2, q3, t_set q4 hap hk (.ref (g.1 + r))⟩ (fun j _ => vp_updV_set (by rw [hk_flds_len, c3]; exact hk) (.ref (g.1 + r)) j)⟩
theorem hk_aast (F : CallFix p m c cc nL s args hk_W own) (G : hk_GG g E S n s H locs) {a t ci ln r j : Nat} {q : vw_C} {i : Int32} (ht : t < 3) (ha : E.2.1 a = t + 14) (hr : E.2.1 r = ci + 1) (hci : ci < 10) (hcc : vwCl[ci]? = some q) (hty : (hk_tys g)[t + 3]? = some (g.2.2.1 (t + 3), .object q.1)) (hln : E.2.2.1 a = ln) (h0 : ¬ i < 0) (hj : i.toNatClampNeg = j) (hlt : j < ln) (hE : hk_set E E1 a j r) (hdg : decode cc pc = .ok (.aastore, 1))
    (kk : ∀ (H1 : Heap) (locs1 : List Loc), hk_GG g E1 S n s H1 locs1 → W p l e R s m args below meth c H1 locs1 cells slots Q (F0 m (pc + 1) ls rest)) : W p l e R s m args below meth c H locs cells slots Q (F0 m pc ls (.ref (g.1 + r) :: .int i :: .ref (g.1 + a) :: rest)) := by
  obtain ⟨hx, hb, hml, hown, hts⟩ := F
  obtain ⟨⟨hH, hsz, hK⟩, hS, hZ, hg⟩ := G
  subst hj
  have hP := hH.one ha (by omega)
  rw [hk_cell_q ht, hln] at hP
  have hV := hH.one hr (by omega)
  rw [hk_cell_o hci] at hV
  obtain ⟨r', hr', cellV, g1, g2, g3, -⟩ := hV 0 _ rfl
  have hcls := (hK.1 ci q hcc).2
  obtain ⟨kA, comp, k1, k2, k3, -⟩ := (hK.2 (t + 3) _ hty).2
  have hcomp : comp = g.2.1.1 ci := Option.some.inj (k3.symm.trans hcls.1)
  subst hcomp
  obtain ⟨kC, hkC, -⟩ := hcls.2
  refine W.aast hx hb (hP 0 _ rfl) (fun q h => by cases h) (fun h => by cases h) k1 k2 rfl hkC ⟨h0, by show _ < (arrV _ _ _).slots.size; rw [arrV_size]; exact hlt⟩ g1 (fun q h => by rw [g3] at h; cases h) (by rw [g2]; exact hkC) (by rw [g2]; exact va_assign hcls) rfl rfl hdg fun H1 e z oq => ?_
  refine kk H1 _ ⟨⟨hH.setR hE ha z oq ?_, by rw [z]; exact hsz, hK⟩, hS.put z oq (Nat.le_add_right _ _), hZ, hg⟩
  rw [hk_cell_q ht, hln]
  show H1[g.1 + a]? = some (vp_cell _ _)
  rw [e, vp_cell_q, vp_cell_q, arrV_store]
  congr 2
  funext q
  by_cases hq : q = i.toNatClampNeg
  · subst hq
    simp [updV, va_up, va_rf]
  · simp [updV, va_up, hq]
/-- the words of a call of a constructor -/
def hk_yI (own : String) (index : Nat) (y : MethodName) (b : ByteArray) (maxL : Nat) : Prop := Cond.code y b maxL none ∈ hk_W ∧ Cond.methodLink own index y ∈ hk_W ∧ Cond.instanceMethod y ∈ hk_W ∧ Cond.initialized y.cls ∈ hk_W ∧ y.name = "<init>" ∧ (y.cls ≠ "java/lang/invoke/MethodHandle" ∧ y.cls ≠ "java/lang/invoke/VarHandle" ∧ (parseMethodDescriptor y.desc).map (fun d => d.parameters.length) = some 0)
def hk_yIN (own : String) (index : Nat) (y : MethodName) (b : ByteArray) (maxL : Nat) (host : String) : Prop := Cond.code y b maxL none ∈ hk_W ∧ (own, index, y, host) ∈ hk_nest ∧ Cond.instanceMethod y ∈ hk_W ∧ Cond.initialized y.cls ∈ hk_W ∧ y.name = "<init>" ∧ (y.cls ≠ "java/lang/invoke/MethodHandle" ∧ y.cls ≠ "java/lang/invoke/VarHandle" ∧ (parseMethodDescriptor y.desc).map (fun d => d.parameters.length) = some 0)
theorem hk_callI (F : CallFix p m c cc nL s args hk_W own) (G : hk_GG g E S n s H locs) {a index maxL mc ms : Nat} {y : MethodName} {b : ByteArray} {rm : Room} {S1 : hk_S} {n1 : Nat}
    (hM : Met l y (hk_ws y b maxL none) rm (hk_Pc g E S n [.ref (g.1 + a)]) (hk_Q g E1 S1 n1 none) mc ms (hk_A g)) (hy : hk_yI own index y b maxL) (hrm : rm.cells = mc ∧ rm.slots = ms ∧ rm.frames + 1 ≤ R.frames ∧ 8 + (maxL + 11) + rm.locals ≤ R.locals) (hL : ls.size = nL) (hrest : (rest.map fun v => v.category).sum ≤ 8) (hf : cells + mc ≤ R.cells ∧ slots + ms ≤ R.slots) (hdg : decode cc pc = .ok (.invokespecial index, 3))
    (kk : ∀ (H1 : Heap) (locs1 : List Loc), hk_GG g E1 S1 n1 s H1 locs1 → W p l e R s m args below meth c H1 locs1 (cells + mc) (slots + ms) Q (F0 m (pc + 3) ls rest)) : W p l e R s m args below meth c H locs cells slots Q (F0 m pc ls (.ref (g.1 + a) :: rest)) := by
  obtain ⟨w1, w2, w3, w5, w6, d1, d2, d3⟩ := hy
  exact hk_call (va_runI (bytes := b) (maxL := maxL) (As := []) (rest := rest) F hM ⟨callB_of 0 F.2.2.2.2 (hk_goodws w1) rfl hrm.1 hrm.2.1 (F.2.2.2.2 _ w5) (F.2.2.2.2 _ w2) ⟨d1, d2, d3⟩ hrm.2.2, w6, F.2.2.2.2 _ w3⟩ ⟨hk_blind, hk_pre G _⟩ rfl rfl hL rfl (lv_room hrest) hdg hf) G kk
theorem hk_callIN (F : CallFix p m c cc nL s args hk_W own) (G : hk_GG g E S n s H locs) {a index maxL mc ms : Nat} {y : MethodName} {host : String} {b : ByteArray} {rm : Room} {S1 : hk_S} {n1 : Nat}
    (hM : Met l y (hk_ws y b maxL none) rm (hk_Pc g E S n [.ref (g.1 + a)]) (hk_Q g E1 S1 n1 none) mc ms (hk_A g)) (hy : hk_yIN own index y b maxL host) (hrm : rm.cells = mc ∧ rm.slots = ms ∧ rm.frames + 1 ≤ R.frames ∧ 8 + (maxL + 11) + rm.locals ≤ R.locals) (hL : ls.size = nL) (hrest : (rest.map fun v => v.category).sum ≤ 8) (hf : cells + mc ≤ R.cells ∧ slots + ms ≤ R.slots) (hdg : decode cc pc = .ok (.invokespecial index, 3))
    (kk : ∀ (H1 : Heap) (locs1 : List Loc), hk_GG g E1 S1 n1 s H1 locs1 → W p l e R s m args below meth c H1 locs1 (cells + mc) (slots + ms) Q (F0 m (pc + 3) ls rest)) : W p l e R s m args below meth c H locs cells slots Q (F0 m pc ls (.ref (g.1 + a) :: rest)) := by
  obtain ⟨w1, w2, w3, w5, w6, d1, d2, d3⟩ := hy
  have hnest := G.2.2.1.2.1 _ w2
  exact hk_call (va_runIN (bytes := b) (maxL := maxL) (As := []) (rest := rest) F hM ⟨va_cnB (host := host) 0 F.2.2.2.2 (hk_goodws w1) rfl hrm.1 hrm.2.1 hnest (F.2.2.2.2 _ w5) ⟨d1, d2, d3⟩ hrm.2.2, w6, F.2.2.2.2 _ w3⟩ ⟨hk_blind, hk_pre G _⟩ rfl rfl hL rfl (lv_room hrest) hdg hf) G kk
theorem hk_obj (F : CallFix p m c cc nL s args hk_W own) {a index : Nat} (hl : Cond.methodLink own index Lib.objectInit ∈ hk_W) (hi : Cond.instanceMethod Lib.objectInit ∈ hk_W) (hc : Cond.code Lib.objectInit ⟨#[0xb1]⟩ 1 none ∈ hk_W) (hL : ls.size = nL) (hR : 1 ≤ R.frames ∧ (rest.map fun v => v.category).sum + 12 ≤ R.locals) (hdg : decode cc pc = .ok (.invokespecial index, 3))
    (kk : W p l e R s m args below meth c H locs cells slots Q (F0 m (pc + 3) ls rest)) : W p l e R s m args below meth c H locs cells slots Q (F0 m pc ls (.ref a :: rest)) :=
  W.objInit F.1 F.2.1 F.2.2.2.1 (F.2.2.2.2 _ hl) (F.2.2.2.2 _ hi) (F.2.2.2.2 _ hc) (g := F0 m pc ls (.ref a :: rest)) rfl (hL.trans F.2.2.1.symm) rfl hdg hR.1 (by show 2 * 0 + _ + 12 ≤ _; omega) kk
end HKC
end
