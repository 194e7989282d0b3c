/-! ===== BEGIN printed: names, fields, word lists, decode rows ===== -/
def RX0 : String := "CamDrum$Air"
def TX0 : u_T := fun k => match k with
  | 0 => ("CamDrum$Air", "tank", "I", false)
  | 1 => ("CamDrum$Air", "capacity", "I", false)
  | 2 => ("CamDrum$Air", "compressor", "I", false)
  | 3 => ("CamDrum$Air", "made", "I", false)
  | 4 => ("CamDrum$Air", "letOff", "I", false)
  | 5 => ("CamDrum$Air", "used", "I", false)
  | _ => ("CamDrum$Air", "leaked", "I", false)
def tyX0 : Nat → FieldType := fun k => match k with
  | 0 => .int
  | 1 => .int
  | 2 => .int
  | 3 => .int
  | 4 => .int
  | 5 => .int
  | _ => .int
abbrev wsX00 : List Cond := u_ws RX0 TX0 7
theorem nmX0 : ∀ a, a < 7 → ∀ b, b < 7 → a ≠ b → (TX0 a).2.1 ≠ (TX0 b).2.1 := by decide +kernel
theorem tyX0_ok : ∀ k, k < 7 → parseFieldDescriptor (TX0 k).2.2.1 = some (tyX0 k) := by decide +kernel
abbrev cX0_init : ByteArray := prog_2_method_1_code
def yX0_init : MethodName := ⟨RX0, "<init>", "()V"⟩
abbrev cX0_copyFrom : ByteArray := prog_2_method_2_code
def yX0_copyFrom : MethodName := ⟨RX0, "copyFrom", "(LCamDrum$Air;)V"⟩
abbrev cX0_compress : ByteArray := prog_2_method_3_code
def yX0_compress : MethodName := ⟨RX0, "compress", "()V"⟩
abbrev cX0_letOffSurplus : ByteArray := prog_2_method_4_code
def yX0_letOffSurplus : MethodName := ⟨RX0, "letOffSurplus", "()V"⟩
abbrev cX0_enoughToMove : ByteArray := prog_2_method_5_code
def yX0_enoughToMove : MethodName := ⟨RX0, "enoughToMove", "(I)I"⟩
abbrev cX0_use : ByteArray := prog_2_method_6_code
def yX0_use : MethodName := ⟨RX0, "use", "(I)V"⟩
abbrev cX0_leakOut : ByteArray := prog_2_method_7_code
def yX0_leakOut : MethodName := ⟨RX0, "leakOut", "(I)I"⟩
def RX1 : String := "CamDrum$Chart"
def TX1 : u_T := fun k => match k with
  | 0 => ("CamDrum$Chart", "out", "[I", true)
  | _ => ("CamDrum$Chart", "skipped", "[I", true)
def tyX1 : Nat → FieldType := fun k => match k with
  | 0 => .array .int
  | _ => .array .int
abbrev wsX10 : List Cond := u_ws RX1 TX1 2
theorem nmX1 : ∀ a, a < 2 → ∀ b, b < 2 → a ≠ b → (TX1 a).2.1 ≠ (TX1 b).2.1 := by decide +kernel
theorem tyX1_ok : ∀ k, k < 2 → parseFieldDescriptor (TX1 k).2.2.1 = some (tyX1 k) := by decide +kernel
abbrev cX1_init : ByteArray := prog_3_method_1_code
def yX1_init : MethodName := ⟨RX1, "<init>", "()V"⟩
abbrev cX1_copyFrom : ByteArray := prog_3_method_2_code
def yX1_copyFrom : MethodName := ⟨RX1, "copyFrom", "(LCamDrum$Chart;)V"⟩
abbrev cX1_outAt : ByteArray := prog_3_method_4_code
def yX1_outAt : MethodName := ⟨RX1, "outAt", "(II)I"⟩
abbrev cX1_note : ByteArray := prog_3_method_5_code
def yX1_note : MethodName := ⟨RX1, "note", "(III)V"⟩
abbrev cX1_skipsAt : ByteArray := prog_3_method_6_code
def yX1_skipsAt : MethodName := ⟨RX1, "skipsAt", "(I)I"⟩
abbrev cX1_countSkip : ByteArray := prog_3_method_7_code
def yX1_countSkip : MethodName := ⟨RX1, "countSkip", "(I)V"⟩
def RX2 : String := "CamDrum$Cylinders"
def TX2 : u_T := fun k => match k with
  | 0 => ("CamDrum$Cylinders", "out", "[I", true)
  | 1 => ("CamDrum$Cylinders", "size", "[I", true)
  | 2 => ("CamDrum$Cylinders", "speed", "[I", true)
  | 3 => ("CamDrum$Cylinders", "leak", "[I", true)
  | 4 => ("CamDrum$Cylinders", "used", "[I", true)
  | _ => ("CamDrum$Cylinders", "leaked", "[I", true)
def tyX2 : Nat → FieldType := fun k => match k with
  | 0 => .array .int
  | 1 => .array .int
  | 2 => .array .int
  | 3 => .array .int
  | 4 => .array .int
  | _ => .array .int
abbrev wsX20 : List Cond := u_ws RX2 TX2 6
theorem nmX2 : ∀ a, a < 6 → ∀ b, b < 6 → a ≠ b → (TX2 a).2.1 ≠ (TX2 b).2.1 := by decide +kernel
theorem tyX2_ok : ∀ k, k < 6 → parseFieldDescriptor (TX2 k).2.2.1 = some (tyX2 k) := by decide +kernel
abbrev cX2_init : ByteArray := prog_4_method_1_code
def yX2_init : MethodName := ⟨RX2, "<init>", "()V"⟩
abbrev cX2_copyFrom : ByteArray := prog_4_method_2_code
def yX2_copyFrom : MethodName := ⟨RX2, "copyFrom", "(LCamDrum$Cylinders;)V"⟩
def RX3 : String := "CamDrum$Guards"
def TX3 : u_T := fun k => match k with
  | 0 => ("CamDrum$Guards", "guarded", "[I", true)
  | 1 => ("CamDrum$Guards", "other", "[I", true)
  | 2 => ("CamDrum$Guards", "bound", "[I", true)
  | _ => ("CamDrum$Guards", "count", "I", false)
def tyX3 : Nat → FieldType := fun k => match k with
  | 0 => .array .int
  | 1 => .array .int
  | 2 => .array .int
  | _ => .int
abbrev wsX30 : List Cond := u_ws RX3 TX3 4
theorem nmX3 : ∀ a, a < 4 → ∀ b, b < 4 → a ≠ b → (TX3 a).2.1 ≠ (TX3 b).2.1 := by decide +kernel
theorem tyX3_ok : ∀ k, k < 4 → parseFieldDescriptor (TX3 k).2.2.1 = some (tyX3 k) := by decide +kernel
abbrev cX3_init : ByteArray := prog_5_method_1_code
def yX3_init : MethodName := ⟨RX3, "<init>", "()V"⟩
abbrev cX3_copyFrom : ByteArray := prog_5_method_2_code
def yX3_copyFrom : MethodName := ⟨RX3, "copyFrom", "(LCamDrum$Guards;)V"⟩
abbrev cX3_putLast : ByteArray := prog_5_method_3_code
def yX3_putLast : MethodName := ⟨RX3, "putLast", "(III)I"⟩
abbrev cX3_takeOut : ByteArray := prog_5_method_4_code
def yX3_takeOut : MethodName := ⟨RX3, "takeOut", "(I)V"⟩
def RX4 : String := "CamDrum$History"
def TX4 : u_T := fun k => match k with
  | 0 => ("CamDrum$History", "kept", "[LCamDrum$Machine;", true)
  | 1 => ("CamDrum$History", "newest", "I", false)
  | _ => ("CamDrum$History", "count", "I", false)
def tyX4 : Nat → FieldType := fun k => match k with
  | 0 => .array (.object "CamDrum$Machine")
  | 1 => .int
  | _ => .int
abbrev wsX40 : List Cond := u_ws RX4 TX4 3
theorem nmX4 : ∀ a, a < 3 → ∀ b, b < 3 → a ≠ b → (TX4 a).2.1 ≠ (TX4 b).2.1 := by decide +kernel
theorem tyX4_ok : ∀ k, k < 3 → parseFieldDescriptor (TX4 k).2.2.1 = some (tyX4 k) := by decide +kernel
abbrev cX4_init : ByteArray := prog_6_method_1_code
def yX4_init : MethodName := ⟨RX4, "<init>", "()V"⟩
abbrev cX4_save : ByteArray := prog_6_method_2_code
def yX4_save : MethodName := ⟨RX4, "save", "(LCamDrum$Machine;)V"⟩
abbrev cX4_restore : ByteArray := prog_6_method_3_code
def yX4_restore : MethodName := ⟨RX4, "restore", "(LCamDrum$Machine;)V"⟩
abbrev cX4_newestPlace : ByteArray := prog_6_method_4_code
def yX4_newestPlace : MethodName := ⟨RX4, "newestPlace", "()LCamDrum$Machine;"⟩
def RX5 : String := "CamDrum$Machine"
def TX5 : u_T := fun k => match k with
  | 0 => ("CamDrum$Machine", "steps", "I", false)
  | 1 => ("CamDrum$Machine", "step", "I", false)
  | 2 => ("CamDrum$Machine", "stand", "I", false)
  | 3 => ("CamDrum$Machine", "dwell", "I", false)
  | 4 => ("CamDrum$Machine", "least", "I", false)
  | 5 => ("CamDrum$Machine", "ticks", "I", false)
  | 6 => ("CamDrum$Machine", "cycles", "I", false)
  | 7 => ("CamDrum$Machine", "skipped", "I", false)
  | 8 => ("CamDrum$Machine", "tracks", "[I", true)
  | 9 => ("CamDrum$Machine", "air", "LCamDrum$Air;", true)
  | 10 => ("CamDrum$Machine", "cylinders", "LCamDrum$Cylinders;", true)
  | 11 => ("CamDrum$Machine", "guards", "LCamDrum$Guards;", true)
  | _ => ("CamDrum$Machine", "chart", "LCamDrum$Chart;", true)
def tyX5 : Nat → FieldType := fun k => match k with
  | 0 => .int
  | 1 => .int
  | 2 => .int
  | 3 => .int
  | 4 => .int
  | 5 => .int
  | 6 => .int
  | 7 => .int
  | 8 => .array .int
  | 9 => .object "CamDrum$Air"
  | 10 => .object "CamDrum$Cylinders"
  | 11 => .object "CamDrum$Guards"
  | _ => .object "CamDrum$Chart"
abbrev wsX50 : List Cond := u_ws RX5 TX5 13
theorem nmX5 : ∀ a, a < 13 → ∀ b, b < 13 → a ≠ b → (TX5 a).2.1 ≠ (TX5 b).2.1 := by decide +kernel
theorem tyX5_ok : ∀ k, k < 13 → parseFieldDescriptor (TX5 k).2.2.1 = some (tyX5 k) := by decide +kernel
abbrev cX5_init : ByteArray := prog_7_method_1_code
def yX5_init : MethodName := ⟨RX5, "<init>", "()V"⟩
abbrev cX5_copyFrom : ByteArray := prog_7_method_2_code
def yX5_copyFrom : MethodName := ⟨RX5, "copyFrom", "(LCamDrum$Machine;)V"⟩
abbrev cX5_hasCam : ByteArray := prog_7_method_3_code
def yX5_hasCam : MethodName := ⟨RX5, "hasCam", "(II)Z"⟩
abbrev cX5_putCam : ByteArray := prog_7_method_4_code
def yX5_putCam : MethodName := ⟨RX5, "putCam", "(IIZ)V"⟩
abbrev cX5_camsOf : ByteArray := prog_7_method_5_code
def yX5_camsOf : MethodName := ⟨RX5, "camsOf", "(I)I"⟩
abbrev cX5_standAt : ByteArray := prog_7_method_6_code
def yX5_standAt : MethodName := ⟨RX5, "standAt", "(I)V"⟩
abbrev cX5_tick : ByteArray := prog_7_method_8_code
def yX5_tick : MethodName := ⟨RX5, "tick", "()I"⟩
abbrev cX5_moveDrum : ByteArray := prog_7_method_9_code
def yX5_moveDrum : MethodName := ⟨RX5, "moveDrum", "()I"⟩
abbrev cX5_moveOut : ByteArray := prog_7_method_10_code
def yX5_moveOut : MethodName := ⟨RX5, "moveOut", "(I)V"⟩
abbrev cX5_moveIn : ByteArray := prog_7_method_11_code
def yX5_moveIn : MethodName := ⟨RX5, "moveIn", "(I)V"⟩
abbrev cX5_leakAt : ByteArray := prog_7_method_12_code
def yX5_leakAt : MethodName := ⟨RX5, "leakAt", "(I)V"⟩
abbrev cX5_roomByGuards : ByteArray := prog_7_method_13_code
def yX5_roomByGuards : MethodName := ⟨RX5, "roomByGuards", "(I)I"⟩
abbrev cX5_holds : ByteArray := prog_7_method_14_code
def yX5_holds : MethodName := ⟨RX5, "holds", "(I)Z"⟩
abbrev cX5_tickUntilCycleEnds : ByteArray := prog_7_method_15_code
def yX5_tickUntilCycleEnds : MethodName := ⟨RX5, "tickUntilCycleEnds", "(I)I"⟩
abbrev cX5_number : ByteArray := prog_7_method_18_code
def yX5_number : MethodName := ⟨RX5, "number", "(I)I"⟩
abbrev cX5_cylinderNumber : ByteArray := prog_7_method_19_code
def yX5_cylinderNumber : MethodName := ⟨RX5, "cylinderNumber", "(II)I"⟩
def RX6 : String := "CamDrum$TrackText"
def TX6 : u_T := fun k => match k with
  | 0 => ("CamDrum$TrackText", "bytes", "[I", true)
  | 1 => ("CamDrum$TrackText", "length", "I", false)
  | 2 => ("CamDrum$TrackText", "tracks", "[I", true)
  | 3 => ("CamDrum$TrackText", "steps", "I", false)
  | 4 => ("CamDrum$TrackText", "fault", "I", false)
  | _ => ("CamDrum$TrackText", "at", "I", false)
def tyX6 : Nat → FieldType := fun k => match k with
  | 0 => .array .int
  | 1 => .int
  | 2 => .array .int
  | 3 => .int
  | 4 => .int
  | _ => .int
abbrev wsX60 : List Cond := u_ws RX6 TX6 6
theorem nmX6 : ∀ a, a < 6 → ∀ b, b < 6 → a ≠ b → (TX6 a).2.1 ≠ (TX6 b).2.1 := by decide +kernel
theorem tyX6_ok : ∀ k, k < 6 → parseFieldDescriptor (TX6 k).2.2.1 = some (tyX6 k) := by decide +kernel
abbrev cX6_init : ByteArray := prog_8_method_1_code
def yX6_init : MethodName := ⟨RX6, "<init>", "()V"⟩
def RX7 : String := "CamDrum"
def TX7 : u_T := fun k => match k with
  | 0 => ("CamDrum", "now", "LCamDrum$Machine;", true)
  | 1 => ("CamDrum", "history", "LCamDrum$History;", true)
  | 2 => ("CamDrum", "text", "LCamDrum$TrackText;", true)
  | 3 => ("CamDrum", "trial", "LCamDrum$Machine;", true)
  | _ => ("CamDrum", "earlier", "LCamDrum$Machine;", true)
def tyX7 : Nat → FieldType := fun k => match k with
  | 0 => .object "CamDrum$Machine"
  | 1 => .object "CamDrum$History"
  | 2 => .object "CamDrum$TrackText"
  | 3 => .object "CamDrum$Machine"
  | _ => .object "CamDrum$Machine"
abbrev wsX70 : List Cond := u_ws RX7 TX7 5
theorem nmX7 : ∀ a, a < 5 → ∀ b, b < 5 → a ≠ b → (TX7 a).2.1 ≠ (TX7 b).2.1 := by decide +kernel
theorem tyX7_ok : ∀ k, k < 5 → parseFieldDescriptor (TX7 k).2.2.1 = some (tyX7 k) := by decide +kernel
abbrev cX7_init : ByteArray := prog_1_method_1_code
def yX7_init : MethodName := ⟨RX7, "<init>", "()V"⟩
abbrev cX7_setCam : ByteArray := prog_1_method_2_code
def yX7_setCam : MethodName := ⟨RX7, "setCam", "(IIZ)I"⟩
abbrev cX7_setPawl : ByteArray := prog_1_method_3_code
def yX7_setPawl : MethodName := ⟨RX7, "setPawl", "(II)I"⟩
abbrev cX7_setCylinder : ByteArray := prog_1_method_4_code
def yX7_setCylinder : MethodName := ⟨RX7, "setCylinder", "(IIII)I"⟩
abbrev cX7_setAir : ByteArray := prog_1_method_5_code
def yX7_setAir : MethodName := ⟨RX7, "setAir", "(II)I"⟩
abbrev cX7_addGuard : ByteArray := prog_1_method_6_code
def yX7_addGuard : MethodName := ⟨RX7, "addGuard", "(III)I"⟩
abbrev cX7_removeGuard : ByteArray := prog_1_method_7_code
def yX7_removeGuard : MethodName := ⟨RX7, "removeGuard", "(I)I"⟩
abbrev cX7_turn : ByteArray := prog_1_method_8_code
def yX7_turn : MethodName := ⟨RX7, "turn", "(I)I"⟩
abbrev cX7_run : ByteArray := prog_1_method_9_code
def yX7_run : MethodName := ⟨RX7, "run", "(I)I"⟩
abbrev cX7_cam : ByteArray := prog_1_method_10_code
def yX7_cam : MethodName := ⟨RX7, "cam", "(II)Z"⟩
abbrev cX7_cylinder : ByteArray := prog_1_method_11_code
def yX7_cylinder : MethodName := ⟨RX7, "cylinder", "(II)I"⟩
abbrev cX7_value : ByteArray := prog_1_method_13_code
def yX7_value : MethodName := ⟨RX7, "value", "(I)I"⟩
abbrev cX7_chart : ByteArray := prog_1_method_14_code
def yX7_chart : MethodName := ⟨RX7, "chart", "(II)I"⟩
abbrev cX7_skips : ByteArray := prog_1_method_15_code
def yX7_skips : MethodName := ⟨RX7, "skips", "(I)I"⟩
abbrev cX7_ticksToOut : ByteArray := prog_1_method_16_code
def yX7_ticksToOut : MethodName := ⟨RX7, "ticksToOut", "(I)I"⟩
abbrev cX7_ticksToCycle : ByteArray := prog_1_method_17_code
def yX7_ticksToCycle : MethodName := ⟨RX7, "ticksToCycle", "()I"⟩
abbrev cX7_leastCompressor : ByteArray := prog_1_method_18_code
def yX7_leastCompressor : MethodName := ⟨RX7, "leastCompressor", "(I)I"⟩
abbrev cX7_useful : ByteArray := prog_1_method_21_code
def yX7_useful : MethodName := ⟨RX7, "useful", "()D"⟩
abbrev cX7_undo : ByteArray := prog_1_method_25_code
def yX7_undo : MethodName := ⟨RX7, "undo", "()I"⟩
abbrev cX7_within : ByteArray := prog_1_method_27_code
def yX7_within : MethodName := ⟨RX7, "within", "(III)Z"⟩
abbrev cX7_requireCylinder : ByteArray := prog_1_method_28_code
def yX7_requireCylinder : MethodName := ⟨RX7, "requireCylinder", "(I)V"⟩
abbrev cX7_requireStep : ByteArray := prog_1_method_29_code
def yX7_requireStep : MethodName := ⟨RX7, "requireStep", "(I)V"⟩
abbrev cX7_requireGuard : ByteArray := prog_1_method_30_code
def yX7_requireGuard : MethodName := ⟨RX7, "requireGuard", "(I)V"⟩
abbrev cX7_requireWhat : ByteArray := prog_1_method_31_code
def yX7_requireWhat : MethodName := ⟨RX7, "requireWhat", "(II)V"⟩
abbrev cX7_goesWithoutSkip : ByteArray := prog_1_method_32_code
def yX7_goesWithoutSkip : MethodName := ⟨RX7, "goesWithoutSkip", "(II)Z"⟩
abbrev cX7_copyRow : ByteArray := prog_1_method_38_code
def yX7_copyRow : MethodName := ⟨RX7, "copyRow", "([I[I)V"⟩
def RX8 : String := "CamDrumModel"
def TX8 : u_T := fun k => match k with
  | _ => ("", "", "", false)
def tyX8 : Nat → FieldType := fun k => match k with
  | _ => .int
abbrev wsX80 : List Cond := u_ws RX8 TX8 0
theorem nmX8 : ∀ a, a < 0 → ∀ b, b < 0 → a ≠ b → (TX8 a).2.1 ≠ (TX8 b).2.1 := by decide +kernel
theorem tyX8_ok : ∀ k, k < 0 → parseFieldDescriptor (TX8 k).2.2.1 = some (tyX8 k) := by decide +kernel
def RJx145de : String := "java/io/Serializable"
def TJx145de : u_T := fun k => match k with
  | _ => ("", "", "", false)
def tyJx145de : Nat → FieldType := fun k => match k with
  | _ => .int
abbrev wsJx145de0 : List Cond := u_ws RJx145de TJx145de 0
theorem nmJx145de : ∀ a, a < 0 → ∀ b, b < 0 → a ≠ b → (TJx145de a).2.1 ≠ (TJx145de b).2.1 := by decide +kernel
theorem tyJx145de_ok : ∀ k, k < 0 → parseFieldDescriptor (TJx145de k).2.2.1 = some (tyJx145de k) := by decide +kernel
def RJ6 : String := "java/lang/Integer"
def TJ6 : u_T := fun k => match k with
  | _ => ("", "", "", false)
def tyJ6 : Nat → FieldType := fun k => match k with
  | _ => .int
abbrev wsJ60 : List Cond := u_ws RJ6 TJ6 0
theorem nmJ6 : ∀ a, a < 0 → ∀ b, b < 0 → a ≠ b → (TJ6 a).2.1 ≠ (TJ6 b).2.1 := by decide +kernel
theorem tyJ6_ok : ∀ k, k < 0 → parseFieldDescriptor (TJ6 k).2.2.1 = some (tyJ6 k) := by decide +kernel
abbrev cJ6_bitCount_0f7a4 : ByteArray := prog_15_method_49_code
def yJ6_bitCount_0f7a4 : MethodName := ⟨RJ6, "bitCount", "(I)I"⟩
def RJ9 : String := "java/lang/Math"
def TJ9 : u_T := fun k => match k with
  | _ => ("", "", "", false)
def tyJ9 : Nat → FieldType := fun k => match k with
  | _ => .int
abbrev wsJ90 : List Cond := u_ws RJ9 TJ9 0
theorem nmJ9 : ∀ a, a < 0 → ∀ b, b < 0 → a ≠ b → (TJ9 a).2.1 ≠ (TJ9 b).2.1 := by decide +kernel
theorem tyJ9_ok : ∀ k, k < 0 → parseFieldDescriptor (TJ9 k).2.2.1 = some (tyJ9 k) := by decide +kernel
abbrev cJ9_max_7cf53 : ByteArray := prog_16_method_65_code
def yJ9_max_7cf53 : MethodName := ⟨RJ9, "max", "(II)I"⟩
abbrev cJ9_min_7cf53 : ByteArray := prog_16_method_69_code
def yJ9_min_7cf53 : MethodName := ⟨RJ9, "min", "(II)I"⟩
def RJ0 : String := "java/lang/String"
def TJ0 : u_T := fun k => match k with
  | _ => ("", "", "", false)
def tyJ0 : Nat → FieldType := fun k => match k with
  | _ => .int
abbrev wsJ00 : List Cond := u_ws RJ0 TJ0 0
theorem nmJ0 : ∀ a, a < 0 → ∀ b, b < 0 → a ≠ b → (TJ0 a).2.1 ≠ (TJ0 b).2.1 := by decide +kernel
theorem tyJ0_ok : ∀ k, k < 0 → parseFieldDescriptor (TJ0 k).2.2.1 = some (tyJ0 k) := by decide +kernel
def RJ10 : String := "java/lang/System"
def TJ10 : u_T := fun k => match k with
  | _ => ("", "", "", false)
def tyJ10 : Nat → FieldType := fun k => match k with
  | _ => .int
abbrev wsJ100 : List Cond := u_ws RJ10 TJ10 0
theorem nmJ10 : ∀ a, a < 0 → ∀ b, b < 0 → a ≠ b → (TJ10 a).2.1 ≠ (TJ10 b).2.1 := by decide +kernel
theorem tyJ10_ok : ∀ k, k < 0 → parseFieldDescriptor (TJ10 k).2.2.1 = some (tyJ10 k) := by decide +kernel
def RJ7 : String := "java/util/Arrays"
def TJ7 : u_T := fun k => match k with
  | _ => ("", "", "", false)
def tyJ7 : Nat → FieldType := fun k => match k with
  | _ => .int
abbrev wsJ70 : List Cond := u_ws RJ7 TJ7 0
theorem nmJ7 : ∀ a, a < 0 → ∀ b, b < 0 → a ≠ b → (TJ7 a).2.1 ≠ (TJ7 b).2.1 := by decide +kernel
theorem tyJ7_ok : ∀ k, k < 0 → parseFieldDescriptor (TJ7 k).2.2.1 = some (tyJ7 k) := by decide +kernel
abbrev cJ7_fill_53178 : ByteArray := prog_21_method_103_code
def yJ7_fill_53178 : MethodName := ⟨RJ7, "fill", "([II)V"⟩
def RL : String := "CamDrumLaw"
abbrev cL_cell : ByteArray := method_2_code
def yL_cell : MethodName := ⟨RL, "cell", "([II)I"⟩
abbrev cL_up : ByteArray := method_3_code
def yL_up : MethodName := ⟨RL, "up", "(II)I"⟩
abbrev cL_isStep : ByteArray := method_4_code
def yL_isStep : MethodName := ⟨RL, "isStep", "(LCamDrum;LCamDrum;II)Z"⟩
abbrev cL_areAlike : ByteArray := method_5_code
def yL_areAlike : MethodName := ⟨RL, "areAlike", "(LCamDrum;LCamDrum;I)Z"⟩
abbrev cL_isSound : ByteArray := method_6_code
def yL_isSound : MethodName := ⟨RL, "isSound", "(LCamDrum;[I)Z"⟩
abbrev cL_law : ByteArray := code
def yL_law : MethodName := ⟨RL, "law", "([I)Z"⟩
theorem dX0_init_0 : decode cX0_init 0 = .ok (.aload_n 0, 1) := by decide +kernel
theorem dX0_init_1 : decode cX0_init 1 = .ok (.invokespecial 3, 3) := by decide +kernel
theorem dX0_init_4 : decode cX0_init 4 = .ok (.aload_n 0, 1) := by decide +kernel
theorem dX0_init_5 : decode cX0_init 5 = .ok (.sipush 1000, 3) := by decide +kernel
theorem dX0_init_8 : decode cX0_init 8 = .ok (.putfield 9, 3) := by decide +kernel
theorem dX0_init_11 : decode cX0_init 11 = .ok (.aload_n 0, 1) := by decide +kernel
theorem dX0_init_12 : decode cX0_init 12 = .ok (.sipush 2000, 3) := by decide +kernel
theorem dX0_init_15 : decode cX0_init 15 = .ok (.putfield 15, 3) := by decide +kernel
theorem dX0_init_18 : decode cX0_init 18 = .ok (.aload_n 0, 1) := by decide +kernel
theorem dX0_init_19 : decode cX0_init 19 = .ok (.bipush 50, 2) := by decide +kernel
theorem dX0_init_21 : decode cX0_init 21 = .ok (.putfield 18, 3) := by decide +kernel
theorem dX0_init_24 : decode cX0_init 24 = .ok (.aload_n 0, 1) := by decide +kernel
theorem dX0_init_25 : decode cX0_init 25 = .ok (.sipush 1000, 3) := by decide +kernel
theorem dX0_init_28 : decode cX0_init 28 = .ok (.putfield 21, 3) := by decide +kernel
theorem dX0_init_31 : decode cX0_init 31 = .ok (.return_, 1) := by decide +kernel
theorem dX0_copyFrom_0 : decode cX0_copyFrom 0 = .ok (.aload_n 0, 1) := by decide +kernel
theorem dX0_copyFrom_1 : decode cX0_copyFrom 1 = .ok (.aload_n 1, 1) := by decide +kernel
theorem dX0_copyFrom_2 : decode cX0_copyFrom 2 = .ok (.getfield 9, 3) := by decide +kernel
theorem dX0_copyFrom_5 : decode cX0_copyFrom 5 = .ok (.putfield 9, 3) := by decide +kernel
theorem dX0_copyFrom_8 : decode cX0_copyFrom 8 = .ok (.aload_n 0, 1) := by decide +kernel
theorem dX0_copyFrom_9 : decode cX0_copyFrom 9 = .ok (.aload_n 1, 1) := by decide +kernel
theorem dX0_copyFrom_10 : decode cX0_copyFrom 10 = .ok (.getfield 15, 3) := by decide +kernel
theorem dX0_copyFrom_13 : decode cX0_copyFrom 13 = .ok (.putfield 15, 3) := by decide +kernel
theorem dX0_copyFrom_16 : decode cX0_copyFrom 16 = .ok (.aload_n 0, 1) := by decide +kernel
theorem dX0_copyFrom_17 : decode cX0_copyFrom 17 = .ok (.aload_n 1, 1) := by decide +kernel
theorem dX0_copyFrom_18 : decode cX0_copyFrom 18 = .ok (.getfield 18, 3) := by decide +kernel
theorem dX0_copyFrom_21 : decode cX0_copyFrom 21 = .ok (.putfield 18, 3) := by decide +kernel
theorem dX0_copyFrom_24 : decode cX0_copyFrom 24 = .ok (.aload_n 0, 1) := by decide +kernel
theorem dX0_copyFrom_25 : decode cX0_copyFrom 25 = .ok (.aload_n 1, 1) := by decide +kernel
theorem dX0_copyFrom_26 : decode cX0_copyFrom 26 = .ok (.getfield 21, 3) := by decide +kernel
theorem dX0_copyFrom_29 : decode cX0_copyFrom 29 = .ok (.putfield 21, 3) := by decide +kernel
theorem dX0_copyFrom_32 : decode cX0_copyFrom 32 = .ok (.aload_n 0, 1) := by decide +kernel
theorem dX0_copyFrom_33 : decode cX0_copyFrom 33 = .ok (.aload_n 1, 1) := by decide +kernel
theorem dX0_copyFrom_34 : decode cX0_copyFrom 34 = .ok (.getfield 24, 3) := by decide +kernel
theorem dX0_copyFrom_37 : decode cX0_copyFrom 37 = .ok (.putfield 24, 3) := by decide +kernel
theorem dX0_copyFrom_40 : decode cX0_copyFrom 40 = .ok (.aload_n 0, 1) := by decide +kernel
theorem dX0_copyFrom_41 : decode cX0_copyFrom 41 = .ok (.aload_n 1, 1) := by decide +kernel
theorem dX0_copyFrom_42 : decode cX0_copyFrom 42 = .ok (.getfield 27, 3) := by decide +kernel
theorem dX0_copyFrom_45 : decode cX0_copyFrom 45 = .ok (.putfield 27, 3) := by decide +kernel
theorem dX0_copyFrom_48 : decode cX0_copyFrom 48 = .ok (.aload_n 0, 1) := by decide +kernel
theorem dX0_copyFrom_49 : decode cX0_copyFrom 49 = .ok (.aload_n 1, 1) := by decide +kernel
theorem dX0_copyFrom_50 : decode cX0_copyFrom 50 = .ok (.getfield 30, 3) := by decide +kernel
theorem dX0_copyFrom_53 : decode cX0_copyFrom 53 = .ok (.putfield 30, 3) := by decide +kernel
theorem dX0_copyFrom_56 : decode cX0_copyFrom 56 = .ok (.return_, 1) := by decide +kernel
theorem dX0_compress_0 : decode cX0_compress 0 = .ok (.aload_n 0, 1) := by decide +kernel
theorem dX0_compress_1 : decode cX0_compress 1 = .ok (.dup, 1) := by decide +kernel
theorem dX0_compress_2 : decode cX0_compress 2 = .ok (.getfield 9, 3) := by decide +kernel
theorem dX0_compress_5 : decode cX0_compress 5 = .ok (.aload_n 0, 1) := by decide +kernel
theorem dX0_compress_6 : decode cX0_compress 6 = .ok (.getfield 18, 3) := by decide +kernel
theorem dX0_compress_9 : decode cX0_compress 9 = .ok (.iadd, 1) := by decide +kernel
theorem dX0_compress_10 : decode cX0_compress 10 = .ok (.putfield 9, 3) := by decide +kernel
theorem dX0_compress_13 : decode cX0_compress 13 = .ok (.aload_n 0, 1) := by decide +kernel
theorem dX0_compress_14 : decode cX0_compress 14 = .ok (.dup, 1) := by decide +kernel
theorem dX0_compress_15 : decode cX0_compress 15 = .ok (.getfield 21, 3) := by decide +kernel
theorem dX0_compress_18 : decode cX0_compress 18 = .ok (.aload_n 0, 1) := by decide +kernel
theorem dX0_compress_19 : decode cX0_compress 19 = .ok (.getfield 18, 3) := by decide +kernel
theorem dX0_compress_22 : decode cX0_compress 22 = .ok (.iadd, 1) := by decide +kernel
theorem dX0_compress_23 : decode cX0_compress 23 = .ok (.putfield 21, 3) := by decide +kernel
theorem dX0_compress_26 : decode cX0_compress 26 = .ok (.aload_n 0, 1) := by decide +kernel
theorem dX0_compress_27 : decode cX0_compress 27 = .ok (.invokevirtual 33, 3) := by decide +kernel
theorem dX0_compress_30 : decode cX0_compress 30 = .ok (.return_, 1) := by decide +kernel
theorem dX0_letOffSurplus_0 : decode cX0_letOffSurplus 0 = .ok (.aload_n 0, 1) := by decide +kernel
theorem dX0_letOffSurplus_1 : decode cX0_letOffSurplus 1 = .ok (.getfield 9, 3) := by decide +kernel
theorem dX0_letOffSurplus_4 : decode cX0_letOffSurplus 4 = .ok (.aload_n 0, 1) := by decide +kernel
theorem dX0_letOffSurplus_5 : decode cX0_letOffSurplus 5 = .ok (.getfield 15, 3) := by decide +kernel
theorem dX0_letOffSurplus_8 : decode cX0_letOffSurplus 8 = .ok (.isub, 1) := by decide +kernel
theorem dX0_letOffSurplus_9 : decode cX0_letOffSurplus 9 = .ok (.iconst 0, 1) := by decide +kernel
theorem dX0_letOffSurplus_10 : decode cX0_letOffSurplus 10 = .ok (.invokestatic 36, 3) := by decide +kernel
theorem dX0_letOffSurplus_13 : decode cX0_letOffSurplus 13 = .ok (.istore_n 1, 1) := by decide +kernel
theorem dX0_letOffSurplus_14 : decode cX0_letOffSurplus 14 = .ok (.aload_n 0, 1) := by decide +kernel
theorem dX0_letOffSurplus_15 : decode cX0_letOffSurplus 15 = .ok (.dup, 1) := by decide +kernel
theorem dX0_letOffSurplus_16 : decode cX0_letOffSurplus 16 = .ok (.getfield 9, 3) := by decide +kernel
theorem dX0_letOffSurplus_19 : decode cX0_letOffSurplus 19 = .ok (.iload_n 1, 1) := by decide +kernel
theorem dX0_letOffSurplus_20 : decode cX0_letOffSurplus 20 = .ok (.isub, 1) := by decide +kernel
theorem dX0_letOffSurplus_21 : decode cX0_letOffSurplus 21 = .ok (.putfield 9, 3) := by decide +kernel
theorem dX0_letOffSurplus_24 : decode cX0_letOffSurplus 24 = .ok (.aload_n 0, 1) := by decide +kernel
theorem dX0_letOffSurplus_25 : decode cX0_letOffSurplus 25 = .ok (.dup, 1) := by decide +kernel
theorem dX0_letOffSurplus_26 : decode cX0_letOffSurplus 26 = .ok (.getfield 24, 3) := by decide +kernel
theorem dX0_letOffSurplus_29 : decode cX0_letOffSurplus 29 = .ok (.iload_n 1, 1) := by decide +kernel
theorem dX0_letOffSurplus_30 : decode cX0_letOffSurplus 30 = .ok (.iadd, 1) := by decide +kernel
theorem dX0_letOffSurplus_31 : decode cX0_letOffSurplus 31 = .ok (.putfield 24, 3) := by decide +kernel
theorem dX0_letOffSurplus_34 : decode cX0_letOffSurplus 34 = .ok (.return_, 1) := by decide +kernel
theorem dX0_enoughToMove_0 : decode cX0_enoughToMove 0 = .ok (.iload_n 1, 1) := by decide +kernel
theorem dX0_enoughToMove_1 : decode cX0_enoughToMove 1 = .ok (.ifCond .le 12, 3) := by decide +kernel
theorem dX0_enoughToMove_4 : decode cX0_enoughToMove 4 = .ok (.aload_n 0, 1) := by decide +kernel
theorem dX0_enoughToMove_5 : decode cX0_enoughToMove 5 = .ok (.getfield 9, 3) := by decide +kernel
theorem dX0_enoughToMove_8 : decode cX0_enoughToMove 8 = .ok (.iload_n 1, 1) := by decide +kernel
theorem dX0_enoughToMove_9 : decode cX0_enoughToMove 9 = .ok (.idiv, 1) := by decide +kernel
theorem dX0_enoughToMove_10 : decode cX0_enoughToMove 10 = .ok (.goto 4, 3) := by decide +kernel
theorem dX0_enoughToMove_13 : decode cX0_enoughToMove 13 = .ok (.iconst 0, 1) := by decide +kernel
theorem dX0_enoughToMove_14 : decode cX0_enoughToMove 14 = .ok (.ireturn, 1) := by decide +kernel
theorem dX0_use_0 : decode cX0_use 0 = .ok (.aload_n 0, 1) := by decide +kernel
theorem dX0_use_1 : decode cX0_use 1 = .ok (.dup, 1) := by decide +kernel
theorem dX0_use_2 : decode cX0_use 2 = .ok (.getfield 9, 3) := by decide +kernel
theorem dX0_use_5 : decode cX0_use 5 = .ok (.iload_n 1, 1) := by decide +kernel
theorem dX0_use_6 : decode cX0_use 6 = .ok (.isub, 1) := by decide +kernel
theorem dX0_use_7 : decode cX0_use 7 = .ok (.putfield 9, 3) := by decide +kernel
theorem dX0_use_10 : decode cX0_use 10 = .ok (.aload_n 0, 1) := by decide +kernel
theorem dX0_use_11 : decode cX0_use 11 = .ok (.dup, 1) := by decide +kernel
theorem dX0_use_12 : decode cX0_use 12 = .ok (.getfield 27, 3) := by decide +kernel
theorem dX0_use_15 : decode cX0_use 15 = .ok (.iload_n 1, 1) := by decide +kernel
theorem dX0_use_16 : decode cX0_use 16 = .ok (.iadd, 1) := by decide +kernel
theorem dX0_use_17 : decode cX0_use 17 = .ok (.putfield 27, 3) := by decide +kernel
theorem dX0_use_20 : decode cX0_use 20 = .ok (.return_, 1) := by decide +kernel
theorem dX0_leakOut_0 : decode cX0_leakOut 0 = .ok (.iload_n 1, 1) := by decide +kernel
theorem dX0_leakOut_1 : decode cX0_leakOut 1 = .ok (.aload_n 0, 1) := by decide +kernel
theorem dX0_leakOut_2 : decode cX0_leakOut 2 = .ok (.getfield 9, 3) := by decide +kernel
theorem dX0_leakOut_5 : decode cX0_leakOut 5 = .ok (.invokestatic 42, 3) := by decide +kernel
theorem dX0_leakOut_8 : decode cX0_leakOut 8 = .ok (.istore_n 2, 1) := by decide +kernel
theorem dX0_leakOut_9 : decode cX0_leakOut 9 = .ok (.aload_n 0, 1) := by decide +kernel
theorem dX0_leakOut_10 : decode cX0_leakOut 10 = .ok (.dup, 1) := by decide +kernel
theorem dX0_leakOut_11 : decode cX0_leakOut 11 = .ok (.getfield 9, 3) := by decide +kernel
theorem dX0_leakOut_14 : decode cX0_leakOut 14 = .ok (.iload_n 2, 1) := by decide +kernel
theorem dX0_leakOut_15 : decode cX0_leakOut 15 = .ok (.isub, 1) := by decide +kernel
theorem dX0_leakOut_16 : decode cX0_leakOut 16 = .ok (.putfield 9, 3) := by decide +kernel
theorem dX0_leakOut_19 : decode cX0_leakOut 19 = .ok (.aload_n 0, 1) := by decide +kernel
theorem dX0_leakOut_20 : decode cX0_leakOut 20 = .ok (.dup, 1) := by decide +kernel
theorem dX0_leakOut_21 : decode cX0_leakOut 21 = .ok (.getfield 30, 3) := by decide +kernel
theorem dX0_leakOut_24 : decode cX0_leakOut 24 = .ok (.iload_n 2, 1) := by decide +kernel
theorem dX0_leakOut_25 : decode cX0_leakOut 25 = .ok (.iadd, 1) := by decide +kernel
theorem dX0_leakOut_26 : decode cX0_leakOut 26 = .ok (.putfield 30, 3) := by decide +kernel
theorem dX0_leakOut_29 : decode cX0_leakOut 29 = .ok (.iload_n 2, 1) := by decide +kernel
theorem dX0_leakOut_30 : decode cX0_leakOut 30 = .ok (.ireturn, 1) := by decide +kernel
theorem dX1_init_0 : decode cX1_init 0 = .ok (.aload_n 0, 1) := by decide +kernel
theorem dX1_init_1 : decode cX1_init 1 = .ok (.invokespecial 3, 3) := by decide +kernel
theorem dX1_init_4 : decode cX1_init 4 = .ok (.aload_n 0, 1) := by decide +kernel
theorem dX1_init_5 : decode cX1_init 5 = .ok (.bipush 80, 2) := by decide +kernel
theorem dX1_init_7 : decode cX1_init 7 = .ok (.newarray .int, 2) := by decide +kernel
theorem dX1_init_9 : decode cX1_init 9 = .ok (.putfield 9, 3) := by decide +kernel
theorem dX1_init_12 : decode cX1_init 12 = .ok (.aload_n 0, 1) := by decide +kernel
theorem dX1_init_13 : decode cX1_init 13 = .ok (.bipush 16, 2) := by decide +kernel
theorem dX1_init_15 : decode cX1_init 15 = .ok (.newarray .int, 2) := by decide +kernel
theorem dX1_init_17 : decode cX1_init 17 = .ok (.putfield 15, 3) := by decide +kernel
theorem dX1_init_20 : decode cX1_init 20 = .ok (.aload_n 0, 1) := by decide +kernel
theorem dX1_init_21 : decode cX1_init 21 = .ok (.getfield 9, 3) := by decide +kernel
theorem dX1_init_24 : decode cX1_init 24 = .ok (.iconst (-1), 1) := by decide +kernel
theorem dX1_init_25 : decode cX1_init 25 = .ok (.invokestatic 18, 3) := by decide +kernel
theorem dX1_init_28 : decode cX1_init 28 = .ok (.return_, 1) := by decide +kernel
theorem dX1_copyFrom_0 : decode cX1_copyFrom 0 = .ok (.aload_n 1, 1) := by decide +kernel
theorem dX1_copyFrom_1 : decode cX1_copyFrom 1 = .ok (.getfield 9, 3) := by decide +kernel
theorem dX1_copyFrom_4 : decode cX1_copyFrom 4 = .ok (.aload_n 0, 1) := by decide +kernel
theorem dX1_copyFrom_5 : decode cX1_copyFrom 5 = .ok (.getfield 9, 3) := by decide +kernel
theorem dX1_copyFrom_8 : decode cX1_copyFrom 8 = .ok (.invokestatic 24, 3) := by decide +kernel
theorem dX1_copyFrom_11 : decode cX1_copyFrom 11 = .ok (.aload_n 1, 1) := by decide +kernel
theorem dX1_copyFrom_12 : decode cX1_copyFrom 12 = .ok (.getfield 15, 3) := by decide +kernel
theorem dX1_copyFrom_15 : decode cX1_copyFrom 15 = .ok (.aload_n 0, 1) := by decide +kernel
theorem dX1_copyFrom_16 : decode cX1_copyFrom 16 = .ok (.getfield 15, 3) := by decide +kernel
theorem dX1_copyFrom_19 : decode cX1_copyFrom 19 = .ok (.invokestatic 24, 3) := by decide +kernel
theorem dX1_copyFrom_22 : decode cX1_copyFrom 22 = .ok (.return_, 1) := by decide +kernel
theorem dX1_outAt_0 : decode cX1_outAt 0 = .ok (.iload_n 1, 1) := by decide +kernel
theorem dX1_outAt_1 : decode cX1_outAt 1 = .ok (.bipush 16, 2) := by decide +kernel
theorem dX1_outAt_3 : decode cX1_outAt 3 = .ok (.imul, 1) := by decide +kernel
theorem dX1_outAt_4 : decode cX1_outAt 4 = .ok (.iload_n 2, 1) := by decide +kernel
theorem dX1_outAt_5 : decode cX1_outAt 5 = .ok (.iadd, 1) := by decide +kernel
theorem dX1_outAt_6 : decode cX1_outAt 6 = .ok (.istore_n 3, 1) := by decide +kernel
theorem dX1_outAt_7 : decode cX1_outAt 7 = .ok (.iload_n 3, 1) := by decide +kernel
theorem dX1_outAt_8 : decode cX1_outAt 8 = .ok (.iconst 0, 1) := by decide +kernel
theorem dX1_outAt_9 : decode cX1_outAt 9 = .ok (.aload_n 0, 1) := by decide +kernel
theorem dX1_outAt_10 : decode cX1_outAt 10 = .ok (.getfield 9, 3) := by decide +kernel
theorem dX1_outAt_13 : decode cX1_outAt 13 = .ok (.arraylength, 1) := by decide +kernel
theorem dX1_outAt_14 : decode cX1_outAt 14 = .ok (.iconst 1, 1) := by decide +kernel
theorem dX1_outAt_15 : decode cX1_outAt 15 = .ok (.isub, 1) := by decide +kernel
theorem dX1_outAt_16 : decode cX1_outAt 16 = .ok (.invokestatic 28, 3) := by decide +kernel
theorem dX1_outAt_19 : decode cX1_outAt 19 = .ok (.ifCond .eq 12, 3) := by decide +kernel
theorem dX1_outAt_22 : decode cX1_outAt 22 = .ok (.aload_n 0, 1) := by decide +kernel
theorem dX1_outAt_23 : decode cX1_outAt 23 = .ok (.getfield 9, 3) := by decide +kernel
theorem dX1_outAt_26 : decode cX1_outAt 26 = .ok (.iload_n 3, 1) := by decide +kernel
theorem dX1_outAt_27 : decode cX1_outAt 27 = .ok (.iaload, 1) := by decide +kernel
theorem dX1_outAt_28 : decode cX1_outAt 28 = .ok (.goto 4, 3) := by decide +kernel
theorem dX1_outAt_31 : decode cX1_outAt 31 = .ok (.iconst (-1), 1) := by decide +kernel
theorem dX1_outAt_32 : decode cX1_outAt 32 = .ok (.ireturn, 1) := by decide +kernel
theorem dX1_note_0 : decode cX1_note 0 = .ok (.iload_n 1, 1) := by decide +kernel
theorem dX1_note_1 : decode cX1_note 1 = .ok (.bipush 16, 2) := by decide +kernel
theorem dX1_note_3 : decode cX1_note 3 = .ok (.imul, 1) := by decide +kernel
theorem dX1_note_4 : decode cX1_note 4 = .ok (.iload_n 2, 1) := by decide +kernel
theorem dX1_note_5 : decode cX1_note 5 = .ok (.iadd, 1) := by decide +kernel
theorem dX1_note_6 : decode cX1_note 6 = .ok (.istore 4, 2) := by decide +kernel
theorem dX1_note_8 : decode cX1_note 8 = .ok (.iload 4, 2) := by decide +kernel
theorem dX1_note_10 : decode cX1_note 10 = .ok (.iconst 0, 1) := by decide +kernel
theorem dX1_note_11 : decode cX1_note 11 = .ok (.aload_n 0, 1) := by decide +kernel
theorem dX1_note_12 : decode cX1_note 12 = .ok (.getfield 9, 3) := by decide +kernel
theorem dX1_note_15 : decode cX1_note 15 = .ok (.arraylength, 1) := by decide +kernel
theorem dX1_note_16 : decode cX1_note 16 = .ok (.iconst 1, 1) := by decide +kernel
theorem dX1_note_17 : decode cX1_note 17 = .ok (.isub, 1) := by decide +kernel
theorem dX1_note_18 : decode cX1_note 18 = .ok (.invokestatic 28, 3) := by decide +kernel
theorem dX1_note_21 : decode cX1_note 21 = .ok (.ifCond .eq 11, 3) := by decide +kernel
theorem dX1_note_24 : decode cX1_note 24 = .ok (.aload_n 0, 1) := by decide +kernel
theorem dX1_note_25 : decode cX1_note 25 = .ok (.getfield 9, 3) := by decide +kernel
theorem dX1_note_28 : decode cX1_note 28 = .ok (.iload 4, 2) := by decide +kernel
theorem dX1_note_30 : decode cX1_note 30 = .ok (.iload_n 3, 1) := by decide +kernel
theorem dX1_note_31 : decode cX1_note 31 = .ok (.iastore, 1) := by decide +kernel
theorem dX1_note_32 : decode cX1_note 32 = .ok (.return_, 1) := by decide +kernel
theorem dX1_skipsAt_0 : decode cX1_skipsAt 0 = .ok (.iload_n 1, 1) := by decide +kernel
theorem dX1_skipsAt_1 : decode cX1_skipsAt 1 = .ok (.iconst 0, 1) := by decide +kernel
theorem dX1_skipsAt_2 : decode cX1_skipsAt 2 = .ok (.aload_n 0, 1) := by decide +kernel
theorem dX1_skipsAt_3 : decode cX1_skipsAt 3 = .ok (.getfield 15, 3) := by decide +kernel
theorem dX1_skipsAt_6 : decode cX1_skipsAt 6 = .ok (.arraylength, 1) := by decide +kernel
theorem dX1_skipsAt_7 : decode cX1_skipsAt 7 = .ok (.iconst 1, 1) := by decide +kernel
theorem dX1_skipsAt_8 : decode cX1_skipsAt 8 = .ok (.isub, 1) := by decide +kernel
theorem dX1_skipsAt_9 : decode cX1_skipsAt 9 = .ok (.invokestatic 28, 3) := by decide +kernel
theorem dX1_skipsAt_12 : decode cX1_skipsAt 12 = .ok (.ifCond .eq 12, 3) := by decide +kernel
theorem dX1_skipsAt_15 : decode cX1_skipsAt 15 = .ok (.aload_n 0, 1) := by decide +kernel
theorem dX1_skipsAt_16 : decode cX1_skipsAt 16 = .ok (.getfield 15, 3) := by decide +kernel
theorem dX1_skipsAt_19 : decode cX1_skipsAt 19 = .ok (.iload_n 1, 1) := by decide +kernel
theorem dX1_skipsAt_20 : decode cX1_skipsAt 20 = .ok (.iaload, 1) := by decide +kernel
theorem dX1_skipsAt_21 : decode cX1_skipsAt 21 = .ok (.goto 4, 3) := by decide +kernel
theorem dX1_skipsAt_24 : decode cX1_skipsAt 24 = .ok (.iconst 0, 1) := by decide +kernel
theorem dX1_skipsAt_25 : decode cX1_skipsAt 25 = .ok (.ireturn, 1) := by decide +kernel
theorem dX1_countSkip_0 : decode cX1_countSkip 0 = .ok (.iload_n 1, 1) := by decide +kernel
theorem dX1_countSkip_1 : decode cX1_countSkip 1 = .ok (.iconst 0, 1) := by decide +kernel
theorem dX1_countSkip_2 : decode cX1_countSkip 2 = .ok (.aload_n 0, 1) := by decide +kernel
theorem dX1_countSkip_3 : decode cX1_countSkip 3 = .ok (.getfield 15, 3) := by decide +kernel
theorem dX1_countSkip_6 : decode cX1_countSkip 6 = .ok (.arraylength, 1) := by decide +kernel
theorem dX1_countSkip_7 : decode cX1_countSkip 7 = .ok (.iconst 1, 1) := by decide +kernel
theorem dX1_countSkip_8 : decode cX1_countSkip 8 = .ok (.isub, 1) := by decide +kernel
theorem dX1_countSkip_9 : decode cX1_countSkip 9 = .ok (.invokestatic 28, 3) := by decide +kernel
theorem dX1_countSkip_12 : decode cX1_countSkip 12 = .ok (.ifCond .eq 13, 3) := by decide +kernel
theorem dX1_countSkip_15 : decode cX1_countSkip 15 = .ok (.aload_n 0, 1) := by decide +kernel
theorem dX1_countSkip_16 : decode cX1_countSkip 16 = .ok (.getfield 15, 3) := by decide +kernel
theorem dX1_countSkip_19 : decode cX1_countSkip 19 = .ok (.iload_n 1, 1) := by decide +kernel
theorem dX1_countSkip_20 : decode cX1_countSkip 20 = .ok (.dup2, 1) := by decide +kernel
theorem dX1_countSkip_21 : decode cX1_countSkip 21 = .ok (.iaload, 1) := by decide +kernel
theorem dX1_countSkip_22 : decode cX1_countSkip 22 = .ok (.iconst 1, 1) := by decide +kernel
theorem dX1_countSkip_23 : decode cX1_countSkip 23 = .ok (.iadd, 1) := by decide +kernel
theorem dX1_countSkip_24 : decode cX1_countSkip 24 = .ok (.iastore, 1) := by decide +kernel
theorem dX1_countSkip_25 : decode cX1_countSkip 25 = .ok (.return_, 1) := by decide +kernel
theorem dX2_init_0 : decode cX2_init 0 = .ok (.aload_n 0, 1) := by decide +kernel
theorem dX2_init_1 : decode cX2_init 1 = .ok (.invokespecial 3, 3) := by decide +kernel
theorem dX2_init_4 : decode cX2_init 4 = .ok (.aload_n 0, 1) := by decide +kernel
theorem dX2_init_5 : decode cX2_init 5 = .ok (.iconst 5, 1) := by decide +kernel
theorem dX2_init_6 : decode cX2_init 6 = .ok (.newarray .int, 2) := by decide +kernel
theorem dX2_init_8 : decode cX2_init 8 = .ok (.putfield 9, 3) := by decide +kernel
theorem dX2_init_11 : decode cX2_init 11 = .ok (.aload_n 0, 1) := by decide +kernel
theorem dX2_init_12 : decode cX2_init 12 = .ok (.iconst 5, 1) := by decide +kernel
theorem dX2_init_13 : decode cX2_init 13 = .ok (.newarray .int, 2) := by decide +kernel
theorem dX2_init_15 : decode cX2_init 15 = .ok (.putfield 15, 3) := by decide +kernel
theorem dX2_init_18 : decode cX2_init 18 = .ok (.aload_n 0, 1) := by decide +kernel
theorem dX2_init_19 : decode cX2_init 19 = .ok (.iconst 5, 1) := by decide +kernel
theorem dX2_init_20 : decode cX2_init 20 = .ok (.newarray .int, 2) := by decide +kernel
theorem dX2_init_22 : decode cX2_init 22 = .ok (.putfield 18, 3) := by decide +kernel
theorem dX2_init_25 : decode cX2_init 25 = .ok (.aload_n 0, 1) := by decide +kernel
theorem dX2_init_26 : decode cX2_init 26 = .ok (.iconst 5, 1) := by decide +kernel
theorem dX2_init_27 : decode cX2_init 27 = .ok (.newarray .int, 2) := by decide +kernel
theorem dX2_init_29 : decode cX2_init 29 = .ok (.putfield 21, 3) := by decide +kernel
theorem dX2_init_32 : decode cX2_init 32 = .ok (.aload_n 0, 1) := by decide +kernel
theorem dX2_init_33 : decode cX2_init 33 = .ok (.iconst 5, 1) := by decide +kernel
theorem dX2_init_34 : decode cX2_init 34 = .ok (.newarray .int, 2) := by decide +kernel
theorem dX2_init_36 : decode cX2_init 36 = .ok (.putfield 24, 3) := by decide +kernel
theorem dX2_init_39 : decode cX2_init 39 = .ok (.aload_n 0, 1) := by decide +kernel
theorem dX2_init_40 : decode cX2_init 40 = .ok (.iconst 5, 1) := by decide +kernel
theorem dX2_init_41 : decode cX2_init 41 = .ok (.newarray .int, 2) := by decide +kernel
theorem dX2_init_43 : decode cX2_init 43 = .ok (.putfield 27, 3) := by decide +kernel
theorem dX2_init_46 : decode cX2_init 46 = .ok (.aload_n 0, 1) := by decide +kernel
theorem dX2_init_47 : decode cX2_init 47 = .ok (.getfield 15, 3) := by decide +kernel
theorem dX2_init_50 : decode cX2_init 50 = .ok (.iconst 2, 1) := by decide +kernel
theorem dX2_init_51 : decode cX2_init 51 = .ok (.invokestatic 30, 3) := by decide +kernel
theorem dX2_init_54 : decode cX2_init 54 = .ok (.aload_n 0, 1) := by decide +kernel
theorem dX2_init_55 : decode cX2_init 55 = .ok (.getfield 18, 3) := by decide +kernel
theorem dX2_init_58 : decode cX2_init 58 = .ok (.bipush 20, 2) := by decide +kernel
theorem dX2_init_60 : decode cX2_init 60 = .ok (.invokestatic 30, 3) := by decide +kernel
theorem dX2_init_63 : decode cX2_init 63 = .ok (.return_, 1) := by decide +kernel
theorem dX2_copyFrom_0 : decode cX2_copyFrom 0 = .ok (.aload_n 1, 1) := by decide +kernel
theorem dX2_copyFrom_1 : decode cX2_copyFrom 1 = .ok (.getfield 9, 3) := by decide +kernel
theorem dX2_copyFrom_4 : decode cX2_copyFrom 4 = .ok (.aload_n 0, 1) := by decide +kernel
theorem dX2_copyFrom_5 : decode cX2_copyFrom 5 = .ok (.getfield 9, 3) := by decide +kernel
theorem dX2_copyFrom_8 : decode cX2_copyFrom 8 = .ok (.invokestatic 36, 3) := by decide +kernel
theorem dX2_copyFrom_11 : decode cX2_copyFrom 11 = .ok (.aload_n 1, 1) := by decide +kernel
theorem dX2_copyFrom_12 : decode cX2_copyFrom 12 = .ok (.getfield 15, 3) := by decide +kernel
theorem dX2_copyFrom_15 : decode cX2_copyFrom 15 = .ok (.aload_n 0, 1) := by decide +kernel
theorem dX2_copyFrom_16 : decode cX2_copyFrom 16 = .ok (.getfield 15, 3) := by decide +kernel
theorem dX2_copyFrom_19 : decode cX2_copyFrom 19 = .ok (.invokestatic 36, 3) := by decide +kernel
theorem dX2_copyFrom_22 : decode cX2_copyFrom 22 = .ok (.aload_n 1, 1) := by decide +kernel
theorem dX2_copyFrom_23 : decode cX2_copyFrom 23 = .ok (.getfield 18, 3) := by decide +kernel
theorem dX2_copyFrom_26 : decode cX2_copyFrom 26 = .ok (.aload_n 0, 1) := by decide +kernel
theorem dX2_copyFrom_27 : decode cX2_copyFrom 27 = .ok (.getfield 18, 3) := by decide +kernel
theorem dX2_copyFrom_30 : decode cX2_copyFrom 30 = .ok (.invokestatic 36, 3) := by decide +kernel
theorem dX2_copyFrom_33 : decode cX2_copyFrom 33 = .ok (.aload_n 1, 1) := by decide +kernel
theorem dX2_copyFrom_34 : decode cX2_copyFrom 34 = .ok (.getfield 21, 3) := by decide +kernel
theorem dX2_copyFrom_37 : decode cX2_copyFrom 37 = .ok (.aload_n 0, 1) := by decide +kernel
theorem dX2_copyFrom_38 : decode cX2_copyFrom 38 = .ok (.getfield 21, 3) := by decide +kernel
theorem dX2_copyFrom_41 : decode cX2_copyFrom 41 = .ok (.invokestatic 36, 3) := by decide +kernel
theorem dX2_copyFrom_44 : decode cX2_copyFrom 44 = .ok (.aload_n 1, 1) := by decide +kernel
theorem dX2_copyFrom_45 : decode cX2_copyFrom 45 = .ok (.getfield 24, 3) := by decide +kernel
theorem dX2_copyFrom_48 : decode cX2_copyFrom 48 = .ok (.aload_n 0, 1) := by decide +kernel
theorem dX2_copyFrom_49 : decode cX2_copyFrom 49 = .ok (.getfield 24, 3) := by decide +kernel
theorem dX2_copyFrom_52 : decode cX2_copyFrom 52 = .ok (.invokestatic 36, 3) := by decide +kernel
theorem dX2_copyFrom_55 : decode cX2_copyFrom 55 = .ok (.aload_n 1, 1) := by decide +kernel
theorem dX2_copyFrom_56 : decode cX2_copyFrom 56 = .ok (.getfield 27, 3) := by decide +kernel
theorem dX2_copyFrom_59 : decode cX2_copyFrom 59 = .ok (.aload_n 0, 1) := by decide +kernel
theorem dX2_copyFrom_60 : decode cX2_copyFrom 60 = .ok (.getfield 27, 3) := by decide +kernel
theorem dX2_copyFrom_63 : decode cX2_copyFrom 63 = .ok (.invokestatic 36, 3) := by decide +kernel
theorem dX2_copyFrom_66 : decode cX2_copyFrom 66 = .ok (.return_, 1) := by decide +kernel
theorem dX3_init_0 : decode cX3_init 0 = .ok (.aload_n 0, 1) := by decide +kernel
theorem dX3_init_1 : decode cX3_init 1 = .ok (.invokespecial 3, 3) := by decide +kernel
theorem dX3_init_4 : decode cX3_init 4 = .ok (.aload_n 0, 1) := by decide +kernel
theorem dX3_init_5 : decode cX3_init 5 = .ok (.iconst 4, 1) := by decide +kernel
theorem dX3_init_6 : decode cX3_init 6 = .ok (.newarray .int, 2) := by decide +kernel
theorem dX3_init_8 : decode cX3_init 8 = .ok (.putfield 9, 3) := by decide +kernel
theorem dX3_init_11 : decode cX3_init 11 = .ok (.aload_n 0, 1) := by decide +kernel
theorem dX3_init_12 : decode cX3_init 12 = .ok (.iconst 4, 1) := by decide +kernel
theorem dX3_init_13 : decode cX3_init 13 = .ok (.newarray .int, 2) := by decide +kernel
theorem dX3_init_15 : decode cX3_init 15 = .ok (.putfield 15, 3) := by decide +kernel
theorem dX3_init_18 : decode cX3_init 18 = .ok (.aload_n 0, 1) := by decide +kernel
theorem dX3_init_19 : decode cX3_init 19 = .ok (.iconst 4, 1) := by decide +kernel
theorem dX3_init_20 : decode cX3_init 20 = .ok (.newarray .int, 2) := by decide +kernel
theorem dX3_init_22 : decode cX3_init 22 = .ok (.putfield 18, 3) := by decide +kernel
theorem dX3_init_25 : decode cX3_init 25 = .ok (.return_, 1) := by decide +kernel
theorem dX3_copyFrom_0 : decode cX3_copyFrom 0 = .ok (.aload_n 1, 1) := by decide +kernel
theorem dX3_copyFrom_1 : decode cX3_copyFrom 1 = .ok (.getfield 9, 3) := by decide +kernel
theorem dX3_copyFrom_4 : decode cX3_copyFrom 4 = .ok (.aload_n 0, 1) := by decide +kernel
theorem dX3_copyFrom_5 : decode cX3_copyFrom 5 = .ok (.getfield 9, 3) := by decide +kernel
theorem dX3_copyFrom_8 : decode cX3_copyFrom 8 = .ok (.invokestatic 21, 3) := by decide +kernel
theorem dX3_copyFrom_11 : decode cX3_copyFrom 11 = .ok (.aload_n 1, 1) := by decide +kernel
theorem dX3_copyFrom_12 : decode cX3_copyFrom 12 = .ok (.getfield 15, 3) := by decide +kernel
theorem dX3_copyFrom_15 : decode cX3_copyFrom 15 = .ok (.aload_n 0, 1) := by decide +kernel
theorem dX3_copyFrom_16 : decode cX3_copyFrom 16 = .ok (.getfield 15, 3) := by decide +kernel
theorem dX3_copyFrom_19 : decode cX3_copyFrom 19 = .ok (.invokestatic 21, 3) := by decide +kernel
theorem dX3_copyFrom_22 : decode cX3_copyFrom 22 = .ok (.aload_n 1, 1) := by decide +kernel
theorem dX3_copyFrom_23 : decode cX3_copyFrom 23 = .ok (.getfield 18, 3) := by decide +kernel
theorem dX3_copyFrom_26 : decode cX3_copyFrom 26 = .ok (.aload_n 0, 1) := by decide +kernel
theorem dX3_copyFrom_27 : decode cX3_copyFrom 27 = .ok (.getfield 18, 3) := by decide +kernel
theorem dX3_copyFrom_30 : decode cX3_copyFrom 30 = .ok (.invokestatic 21, 3) := by decide +kernel
theorem dX3_copyFrom_33 : decode cX3_copyFrom 33 = .ok (.aload_n 0, 1) := by decide +kernel
theorem dX3_copyFrom_34 : decode cX3_copyFrom 34 = .ok (.aload_n 1, 1) := by decide +kernel
theorem dX3_copyFrom_35 : decode cX3_copyFrom 35 = .ok (.getfield 25, 3) := by decide +kernel
theorem dX3_copyFrom_38 : decode cX3_copyFrom 38 = .ok (.putfield 25, 3) := by decide +kernel
theorem dX3_copyFrom_41 : decode cX3_copyFrom 41 = .ok (.return_, 1) := by decide +kernel
theorem dX3_putLast_0 : decode cX3_putLast 0 = .ok (.aload_n 0, 1) := by decide +kernel
theorem dX3_putLast_1 : decode cX3_putLast 1 = .ok (.getfield 25, 3) := by decide +kernel
theorem dX3_putLast_4 : decode cX3_putLast 4 = .ok (.iconst 0, 1) := by decide +kernel
theorem dX3_putLast_5 : decode cX3_putLast 5 = .ok (.iconst 3, 1) := by decide +kernel
theorem dX3_putLast_6 : decode cX3_putLast 6 = .ok (.invokestatic 29, 3) := by decide +kernel
theorem dX3_putLast_9 : decode cX3_putLast 9 = .ok (.ifCond .ne 5, 3) := by decide +kernel
theorem dX3_putLast_12 : decode cX3_putLast 12 = .ok (.iconst (-1), 1) := by decide +kernel
theorem dX3_putLast_13 : decode cX3_putLast 13 = .ok (.ireturn, 1) := by decide +kernel
theorem dX3_putLast_14 : decode cX3_putLast 14 = .ok (.aload_n 0, 1) := by decide +kernel
theorem dX3_putLast_15 : decode cX3_putLast 15 = .ok (.getfield 9, 3) := by decide +kernel
theorem dX3_putLast_18 : decode cX3_putLast 18 = .ok (.aload_n 0, 1) := by decide +kernel
theorem dX3_putLast_19 : decode cX3_putLast 19 = .ok (.getfield 25, 3) := by decide +kernel
theorem dX3_putLast_22 : decode cX3_putLast 22 = .ok (.iload_n 1, 1) := by decide +kernel
theorem dX3_putLast_23 : decode cX3_putLast 23 = .ok (.iastore, 1) := by decide +kernel
theorem dX3_putLast_24 : decode cX3_putLast 24 = .ok (.aload_n 0, 1) := by decide +kernel
theorem dX3_putLast_25 : decode cX3_putLast 25 = .ok (.getfield 15, 3) := by decide +kernel
theorem dX3_putLast_28 : decode cX3_putLast 28 = .ok (.aload_n 0, 1) := by decide +kernel
theorem dX3_putLast_29 : decode cX3_putLast 29 = .ok (.getfield 25, 3) := by decide +kernel
theorem dX3_putLast_32 : decode cX3_putLast 32 = .ok (.iload_n 2, 1) := by decide +kernel
theorem dX3_putLast_33 : decode cX3_putLast 33 = .ok (.iastore, 1) := by decide +kernel
theorem dX3_putLast_34 : decode cX3_putLast 34 = .ok (.aload_n 0, 1) := by decide +kernel
theorem dX3_putLast_35 : decode cX3_putLast 35 = .ok (.getfield 18, 3) := by decide +kernel
theorem dX3_putLast_38 : decode cX3_putLast 38 = .ok (.aload_n 0, 1) := by decide +kernel
theorem dX3_putLast_39 : decode cX3_putLast 39 = .ok (.getfield 25, 3) := by decide +kernel
theorem dX3_putLast_42 : decode cX3_putLast 42 = .ok (.iload_n 3, 1) := by decide +kernel
theorem dX3_putLast_43 : decode cX3_putLast 43 = .ok (.iastore, 1) := by decide +kernel
theorem dX3_putLast_44 : decode cX3_putLast 44 = .ok (.aload_n 0, 1) := by decide +kernel
theorem dX3_putLast_45 : decode cX3_putLast 45 = .ok (.dup, 1) := by decide +kernel
theorem dX3_putLast_46 : decode cX3_putLast 46 = .ok (.getfield 25, 3) := by decide +kernel
theorem dX3_putLast_49 : decode cX3_putLast 49 = .ok (.iconst 1, 1) := by decide +kernel
theorem dX3_putLast_50 : decode cX3_putLast 50 = .ok (.iadd, 1) := by decide +kernel
theorem dX3_putLast_51 : decode cX3_putLast 51 = .ok (.putfield 25, 3) := by decide +kernel
theorem dX3_putLast_54 : decode cX3_putLast 54 = .ok (.aload_n 0, 1) := by decide +kernel
theorem dX3_putLast_55 : decode cX3_putLast 55 = .ok (.getfield 25, 3) := by decide +kernel
theorem dX3_putLast_58 : decode cX3_putLast 58 = .ok (.iconst 1, 1) := by decide +kernel
theorem dX3_putLast_59 : decode cX3_putLast 59 = .ok (.isub, 1) := by decide +kernel
theorem dX3_putLast_60 : decode cX3_putLast 60 = .ok (.ireturn, 1) := by decide +kernel
theorem dX3_takeOut_0 : decode cX3_takeOut 0 = .ok (.iload_n 1, 1) := by decide +kernel
theorem dX3_takeOut_1 : decode cX3_takeOut 1 = .ok (.iconst 0, 1) := by decide +kernel
theorem dX3_takeOut_2 : decode cX3_takeOut 2 = .ok (.invokestatic 33, 3) := by decide +kernel
theorem dX3_takeOut_5 : decode cX3_takeOut 5 = .ok (.istore_n 2, 1) := by decide +kernel
theorem dX3_takeOut_6 : decode cX3_takeOut 6 = .ok (.iload_n 2, 1) := by decide +kernel
theorem dX3_takeOut_7 : decode cX3_takeOut 7 = .ok (.iconst 1, 1) := by decide +kernel
theorem dX3_takeOut_8 : decode cX3_takeOut 8 = .ok (.iadd, 1) := by decide +kernel
theorem dX3_takeOut_9 : decode cX3_takeOut 9 = .ok (.aload_n 0, 1) := by decide +kernel
theorem dX3_takeOut_10 : decode cX3_takeOut 10 = .ok (.getfield 25, 3) := by decide +kernel
theorem dX3_takeOut_13 : decode cX3_takeOut 13 = .ok (.if_icmp .ge 58, 3) := by decide +kernel
theorem dX3_takeOut_16 : decode cX3_takeOut 16 = .ok (.iload_n 2, 1) := by decide +kernel
theorem dX3_takeOut_17 : decode cX3_takeOut 17 = .ok (.iconst 1, 1) := by decide +kernel
theorem dX3_takeOut_18 : decode cX3_takeOut 18 = .ok (.iadd, 1) := by decide +kernel
theorem dX3_takeOut_19 : decode cX3_takeOut 19 = .ok (.iconst 4, 1) := by decide +kernel
theorem dX3_takeOut_20 : decode cX3_takeOut 20 = .ok (.if_icmp .ge 51, 3) := by decide +kernel
theorem dX3_takeOut_23 : decode cX3_takeOut 23 = .ok (.aload_n 0, 1) := by decide +kernel
theorem dX3_takeOut_24 : decode cX3_takeOut 24 = .ok (.getfield 9, 3) := by decide +kernel
theorem dX3_takeOut_27 : decode cX3_takeOut 27 = .ok (.iload_n 2, 1) := by decide +kernel
theorem dX3_takeOut_28 : decode cX3_takeOut 28 = .ok (.aload_n 0, 1) := by decide +kernel
theorem dX3_takeOut_29 : decode cX3_takeOut 29 = .ok (.getfield 9, 3) := by decide +kernel
theorem dX3_takeOut_32 : decode cX3_takeOut 32 = .ok (.iload_n 2, 1) := by decide +kernel
theorem dX3_takeOut_33 : decode cX3_takeOut 33 = .ok (.iconst 1, 1) := by decide +kernel
theorem dX3_takeOut_34 : decode cX3_takeOut 34 = .ok (.iadd, 1) := by decide +kernel
theorem dX3_takeOut_35 : decode cX3_takeOut 35 = .ok (.iaload, 1) := by decide +kernel
theorem dX3_takeOut_36 : decode cX3_takeOut 36 = .ok (.iastore, 1) := by decide +kernel
theorem dX3_takeOut_37 : decode cX3_takeOut 37 = .ok (.aload_n 0, 1) := by decide +kernel
theorem dX3_takeOut_38 : decode cX3_takeOut 38 = .ok (.getfield 15, 3) := by decide +kernel
theorem dX3_takeOut_41 : decode cX3_takeOut 41 = .ok (.iload_n 2, 1) := by decide +kernel
theorem dX3_takeOut_42 : decode cX3_takeOut 42 = .ok (.aload_n 0, 1) := by decide +kernel
theorem dX3_takeOut_43 : decode cX3_takeOut 43 = .ok (.getfield 15, 3) := by decide +kernel
theorem dX3_takeOut_46 : decode cX3_takeOut 46 = .ok (.iload_n 2, 1) := by decide +kernel
theorem dX3_takeOut_47 : decode cX3_takeOut 47 = .ok (.iconst 1, 1) := by decide +kernel
theorem dX3_takeOut_48 : decode cX3_takeOut 48 = .ok (.iadd, 1) := by decide +kernel
theorem dX3_takeOut_49 : decode cX3_takeOut 49 = .ok (.iaload, 1) := by decide +kernel
theorem dX3_takeOut_50 : decode cX3_takeOut 50 = .ok (.iastore, 1) := by decide +kernel
theorem dX3_takeOut_51 : decode cX3_takeOut 51 = .ok (.aload_n 0, 1) := by decide +kernel
theorem dX3_takeOut_52 : decode cX3_takeOut 52 = .ok (.getfield 18, 3) := by decide +kernel
theorem dX3_takeOut_55 : decode cX3_takeOut 55 = .ok (.iload_n 2, 1) := by decide +kernel
theorem dX3_takeOut_56 : decode cX3_takeOut 56 = .ok (.aload_n 0, 1) := by decide +kernel
theorem dX3_takeOut_57 : decode cX3_takeOut 57 = .ok (.getfield 18, 3) := by decide +kernel
theorem dX3_takeOut_60 : decode cX3_takeOut 60 = .ok (.iload_n 2, 1) := by decide +kernel
theorem dX3_takeOut_61 : decode cX3_takeOut 61 = .ok (.iconst 1, 1) := by decide +kernel
theorem dX3_takeOut_62 : decode cX3_takeOut 62 = .ok (.iadd, 1) := by decide +kernel
theorem dX3_takeOut_63 : decode cX3_takeOut 63 = .ok (.iaload, 1) := by decide +kernel
theorem dX3_takeOut_64 : decode cX3_takeOut 64 = .ok (.iastore, 1) := by decide +kernel
theorem dX3_takeOut_65 : decode cX3_takeOut 65 = .ok (.iinc 2 1, 3) := by decide +kernel
theorem dX3_takeOut_68 : decode cX3_takeOut 68 = .ok (.goto (-62), 3) := by decide +kernel
theorem dX3_takeOut_71 : decode cX3_takeOut 71 = .ok (.aload_n 0, 1) := by decide +kernel
theorem dX3_takeOut_72 : decode cX3_takeOut 72 = .ok (.dup, 1) := by decide +kernel
theorem dX3_takeOut_73 : decode cX3_takeOut 73 = .ok (.getfield 25, 3) := by decide +kernel
theorem dX3_takeOut_76 : decode cX3_takeOut 76 = .ok (.iconst 1, 1) := by decide +kernel
theorem dX3_takeOut_77 : decode cX3_takeOut 77 = .ok (.isub, 1) := by decide +kernel
theorem dX3_takeOut_78 : decode cX3_takeOut 78 = .ok (.putfield 25, 3) := by decide +kernel
theorem dX3_takeOut_81 : decode cX3_takeOut 81 = .ok (.return_, 1) := by decide +kernel
theorem dX4_init_0 : decode cX4_init 0 = .ok (.aload_n 0, 1) := by decide +kernel
theorem dX4_init_1 : decode cX4_init 1 = .ok (.invokespecial 3, 3) := by decide +kernel
theorem dX4_init_4 : decode cX4_init 4 = .ok (.aload_n 0, 1) := by decide +kernel
theorem dX4_init_5 : decode cX4_init 5 = .ok (.iconst 4, 1) := by decide +kernel
theorem dX4_init_6 : decode cX4_init 6 = .ok (.anewarray 9, 3) := by decide +kernel
theorem dX4_init_9 : decode cX4_init 9 = .ok (.putfield 11, 3) := by decide +kernel
theorem dX4_init_12 : decode cX4_init 12 = .ok (.iconst 0, 1) := by decide +kernel
theorem dX4_init_13 : decode cX4_init 13 = .ok (.istore_n 1, 1) := by decide +kernel
theorem dX4_init_14 : decode cX4_init 14 = .ok (.iload_n 1, 1) := by decide +kernel
theorem dX4_init_15 : decode cX4_init 15 = .ok (.iconst 4, 1) := by decide +kernel
theorem dX4_init_16 : decode cX4_init 16 = .ok (.if_icmp .ge 22, 3) := by decide +kernel
theorem dX4_init_19 : decode cX4_init 19 = .ok (.aload_n 0, 1) := by decide +kernel
theorem dX4_init_20 : decode cX4_init 20 = .ok (.getfield 11, 3) := by decide +kernel
theorem dX4_init_23 : decode cX4_init 23 = .ok (.iload_n 1, 1) := by decide +kernel
theorem dX4_init_24 : decode cX4_init 24 = .ok (.new 9, 3) := by decide +kernel
theorem dX4_init_27 : decode cX4_init 27 = .ok (.dup, 1) := by decide +kernel
theorem dX4_init_28 : decode cX4_init 28 = .ok (.invokespecial 17, 3) := by decide +kernel
theorem dX4_init_31 : decode cX4_init 31 = .ok (.aastore, 1) := by decide +kernel
theorem dX4_init_32 : decode cX4_init 32 = .ok (.iinc 1 1, 3) := by decide +kernel
theorem dX4_init_35 : decode cX4_init 35 = .ok (.goto (-21), 3) := by decide +kernel
theorem dX4_init_38 : decode cX4_init 38 = .ok (.return_, 1) := by decide +kernel
theorem dX4_save_0 : decode cX4_save 0 = .ok (.aload_n 0, 1) := by decide +kernel
theorem dX4_save_1 : decode cX4_save 1 = .ok (.aload_n 0, 1) := by decide +kernel
theorem dX4_save_2 : decode cX4_save 2 = .ok (.getfield 18, 3) := by decide +kernel
theorem dX4_save_5 : decode cX4_save 5 = .ok (.iconst 1, 1) := by decide +kernel
theorem dX4_save_6 : decode cX4_save 6 = .ok (.iadd, 1) := by decide +kernel
theorem dX4_save_7 : decode cX4_save 7 = .ok (.iconst 4, 1) := by decide +kernel
theorem dX4_save_8 : decode cX4_save 8 = .ok (.if_icmp .ge 12, 3) := by decide +kernel
theorem dX4_save_11 : decode cX4_save 11 = .ok (.aload_n 0, 1) := by decide +kernel
theorem dX4_save_12 : decode cX4_save 12 = .ok (.getfield 18, 3) := by decide +kernel
theorem dX4_save_15 : decode cX4_save 15 = .ok (.iconst 1, 1) := by decide +kernel
theorem dX4_save_16 : decode cX4_save 16 = .ok (.iadd, 1) := by decide +kernel
theorem dX4_save_17 : decode cX4_save 17 = .ok (.goto 4, 3) := by decide +kernel
theorem dX4_save_20 : decode cX4_save 20 = .ok (.iconst 0, 1) := by decide +kernel
theorem dX4_save_21 : decode cX4_save 21 = .ok (.putfield 18, 3) := by decide +kernel
theorem dX4_save_24 : decode cX4_save 24 = .ok (.aload_n 0, 1) := by decide +kernel
theorem dX4_save_25 : decode cX4_save 25 = .ok (.aload_n 0, 1) := by decide +kernel
theorem dX4_save_26 : decode cX4_save 26 = .ok (.getfield 22, 3) := by decide +kernel
theorem dX4_save_29 : decode cX4_save 29 = .ok (.iconst 1, 1) := by decide +kernel
theorem dX4_save_30 : decode cX4_save 30 = .ok (.iadd, 1) := by decide +kernel
theorem dX4_save_31 : decode cX4_save 31 = .ok (.iconst 4, 1) := by decide +kernel
theorem dX4_save_32 : decode cX4_save 32 = .ok (.invokestatic 25, 3) := by decide +kernel
theorem dX4_save_35 : decode cX4_save 35 = .ok (.putfield 22, 3) := by decide +kernel
theorem dX4_save_38 : decode cX4_save 38 = .ok (.aload_n 0, 1) := by decide +kernel
theorem dX4_save_39 : decode cX4_save 39 = .ok (.invokevirtual 31, 3) := by decide +kernel
theorem dX4_save_42 : decode cX4_save 42 = .ok (.astore_n 2, 1) := by decide +kernel
theorem dX4_save_43 : decode cX4_save 43 = .ok (.aload_n 2, 1) := by decide +kernel
theorem dX4_save_44 : decode cX4_save 44 = .ok (.ifnull 8, 3) := by decide +kernel
theorem dX4_save_47 : decode cX4_save 47 = .ok (.aload_n 2, 1) := by decide +kernel
theorem dX4_save_48 : decode cX4_save 48 = .ok (.aload_n 1, 1) := by decide +kernel
theorem dX4_save_49 : decode cX4_save 49 = .ok (.invokevirtual 35, 3) := by decide +kernel
theorem dX4_save_52 : decode cX4_save 52 = .ok (.return_, 1) := by decide +kernel
theorem dX4_restore_0 : decode cX4_restore 0 = .ok (.aload_n 0, 1) := by decide +kernel
theorem dX4_restore_1 : decode cX4_restore 1 = .ok (.invokevirtual 31, 3) := by decide +kernel
theorem dX4_restore_4 : decode cX4_restore 4 = .ok (.astore_n 2, 1) := by decide +kernel
theorem dX4_restore_5 : decode cX4_restore 5 = .ok (.aload_n 2, 1) := by decide +kernel
theorem dX4_restore_6 : decode cX4_restore 6 = .ok (.ifnull 8, 3) := by decide +kernel
theorem dX4_restore_9 : decode cX4_restore 9 = .ok (.aload_n 1, 1) := by decide +kernel
theorem dX4_restore_10 : decode cX4_restore 10 = .ok (.aload_n 2, 1) := by decide +kernel
theorem dX4_restore_11 : decode cX4_restore 11 = .ok (.invokevirtual 35, 3) := by decide +kernel
theorem dX4_restore_14 : decode cX4_restore 14 = .ok (.aload_n 0, 1) := by decide +kernel
theorem dX4_restore_15 : decode cX4_restore 15 = .ok (.aload_n 0, 1) := by decide +kernel
theorem dX4_restore_16 : decode cX4_restore 16 = .ok (.getfield 18, 3) := by decide +kernel
theorem dX4_restore_19 : decode cX4_restore 19 = .ok (.ifCond .le 12, 3) := by decide +kernel
theorem dX4_restore_22 : decode cX4_restore 22 = .ok (.aload_n 0, 1) := by decide +kernel
theorem dX4_restore_23 : decode cX4_restore 23 = .ok (.getfield 18, 3) := by decide +kernel
theorem dX4_restore_26 : decode cX4_restore 26 = .ok (.iconst 1, 1) := by decide +kernel
theorem dX4_restore_27 : decode cX4_restore 27 = .ok (.isub, 1) := by decide +kernel
theorem dX4_restore_28 : decode cX4_restore 28 = .ok (.goto 4, 3) := by decide +kernel
theorem dX4_restore_31 : decode cX4_restore 31 = .ok (.iconst 3, 1) := by decide +kernel
theorem dX4_restore_32 : decode cX4_restore 32 = .ok (.putfield 18, 3) := by decide +kernel
theorem dX4_restore_35 : decode cX4_restore 35 = .ok (.aload_n 0, 1) := by decide +kernel
theorem dX4_restore_36 : decode cX4_restore 36 = .ok (.dup, 1) := by decide +kernel
theorem dX4_restore_37 : decode cX4_restore 37 = .ok (.getfield 22, 3) := by decide +kernel
theorem dX4_restore_40 : decode cX4_restore 40 = .ok (.iconst 1, 1) := by decide +kernel
theorem dX4_restore_41 : decode cX4_restore 41 = .ok (.isub, 1) := by decide +kernel
theorem dX4_restore_42 : decode cX4_restore 42 = .ok (.putfield 22, 3) := by decide +kernel
theorem dX4_restore_45 : decode cX4_restore 45 = .ok (.return_, 1) := by decide +kernel
theorem dX4_newestPlace_0 : decode cX4_newestPlace 0 = .ok (.aload_n 0, 1) := by decide +kernel
theorem dX4_newestPlace_1 : decode cX4_newestPlace 1 = .ok (.getfield 18, 3) := by decide +kernel
theorem dX4_newestPlace_4 : decode cX4_newestPlace 4 = .ok (.iconst 0, 1) := by decide +kernel
theorem dX4_newestPlace_5 : decode cX4_newestPlace 5 = .ok (.iconst 3, 1) := by decide +kernel
theorem dX4_newestPlace_6 : decode cX4_newestPlace 6 = .ok (.invokestatic 39, 3) := by decide +kernel
theorem dX4_newestPlace_9 : decode cX4_newestPlace 9 = .ok (.ifCond .eq 15, 3) := by decide +kernel
theorem dX4_newestPlace_12 : decode cX4_newestPlace 12 = .ok (.aload_n 0, 1) := by decide +kernel
theorem dX4_newestPlace_13 : decode cX4_newestPlace 13 = .ok (.getfield 11, 3) := by decide +kernel
theorem dX4_newestPlace_16 : decode cX4_newestPlace 16 = .ok (.aload_n 0, 1) := by decide +kernel
theorem dX4_newestPlace_17 : decode cX4_newestPlace 17 = .ok (.getfield 18, 3) := by decide +kernel
theorem dX4_newestPlace_20 : decode cX4_newestPlace 20 = .ok (.aaload, 1) := by decide +kernel
theorem dX4_newestPlace_21 : decode cX4_newestPlace 21 = .ok (.goto 4, 3) := by decide +kernel
theorem dX4_newestPlace_24 : decode cX4_newestPlace 24 = .ok (.aconst_null, 1) := by decide +kernel
theorem dX4_newestPlace_25 : decode cX4_newestPlace 25 = .ok (.areturn, 1) := by decide +kernel
theorem dX5_init_0 : decode cX5_init 0 = .ok (.aload_n 0, 1) := by decide +kernel
theorem dX5_init_1 : decode cX5_init 1 = .ok (.invokespecial 3, 3) := by decide +kernel
theorem dX5_init_4 : decode cX5_init 4 = .ok (.aload_n 0, 1) := by decide +kernel
theorem dX5_init_5 : decode cX5_init 5 = .ok (.bipush 8, 2) := by decide +kernel
theorem dX5_init_7 : decode cX5_init 7 = .ok (.putfield 9, 3) := by decide +kernel
theorem dX5_init_10 : decode cX5_init 10 = .ok (.aload_n 0, 1) := by decide +kernel
theorem dX5_init_11 : decode cX5_init 11 = .ok (.iconst 4, 1) := by decide +kernel
theorem dX5_init_12 : decode cX5_init 12 = .ok (.putfield 15, 3) := by decide +kernel
theorem dX5_init_15 : decode cX5_init 15 = .ok (.aload_n 0, 1) := by decide +kernel
theorem dX5_init_16 : decode cX5_init 16 = .ok (.bipush 100, 2) := by decide +kernel
theorem dX5_init_18 : decode cX5_init 18 = .ok (.putfield 18, 3) := by decide +kernel
theorem dX5_init_21 : decode cX5_init 21 = .ok (.aload_n 0, 1) := by decide +kernel
theorem dX5_init_22 : decode cX5_init 22 = .ok (.iconst 5, 1) := by decide +kernel
theorem dX5_init_23 : decode cX5_init 23 = .ok (.newarray .int, 2) := by decide +kernel
theorem dX5_init_25 : decode cX5_init 25 = .ok (.putfield 21, 3) := by decide +kernel
theorem dX5_init_28 : decode cX5_init 28 = .ok (.aload_n 0, 1) := by decide +kernel
theorem dX5_init_29 : decode cX5_init 29 = .ok (.new 25, 3) := by decide +kernel
theorem dX5_init_32 : decode cX5_init 32 = .ok (.dup, 1) := by decide +kernel
theorem dX5_init_33 : decode cX5_init 33 = .ok (.invokespecial 27, 3) := by decide +kernel
theorem dX5_init_36 : decode cX5_init 36 = .ok (.putfield 28, 3) := by decide +kernel
theorem dX5_init_39 : decode cX5_init 39 = .ok (.aload_n 0, 1) := by decide +kernel
theorem dX5_init_40 : decode cX5_init 40 = .ok (.new 32, 3) := by decide +kernel
theorem dX5_init_43 : decode cX5_init 43 = .ok (.dup, 1) := by decide +kernel
theorem dX5_init_44 : decode cX5_init 44 = .ok (.invokespecial 34, 3) := by decide +kernel
theorem dX5_init_47 : decode cX5_init 47 = .ok (.putfield 35, 3) := by decide +kernel
theorem dX5_init_50 : decode cX5_init 50 = .ok (.aload_n 0, 1) := by decide +kernel
theorem dX5_init_51 : decode cX5_init 51 = .ok (.new 39, 3) := by decide +kernel
theorem dX5_init_54 : decode cX5_init 54 = .ok (.dup, 1) := by decide +kernel
theorem dX5_init_55 : decode cX5_init 55 = .ok (.invokespecial 41, 3) := by decide +kernel
theorem dX5_init_58 : decode cX5_init 58 = .ok (.putfield 42, 3) := by decide +kernel
theorem dX5_init_61 : decode cX5_init 61 = .ok (.aload_n 0, 1) := by decide +kernel
theorem dX5_init_62 : decode cX5_init 62 = .ok (.new 46, 3) := by decide +kernel
theorem dX5_init_65 : decode cX5_init 65 = .ok (.dup, 1) := by decide +kernel
theorem dX5_init_66 : decode cX5_init 66 = .ok (.invokespecial 48, 3) := by decide +kernel
theorem dX5_init_69 : decode cX5_init 69 = .ok (.putfield 49, 3) := by decide +kernel
theorem dX5_init_72 : decode cX5_init 72 = .ok (.return_, 1) := by decide +kernel
theorem dX5_copyFrom_0 : decode cX5_copyFrom 0 = .ok (.aload_n 0, 1) := by decide +kernel
theorem dX5_copyFrom_1 : decode cX5_copyFrom 1 = .ok (.aload_n 1, 1) := by decide +kernel
theorem dX5_copyFrom_2 : decode cX5_copyFrom 2 = .ok (.getfield 9, 3) := by decide +kernel
theorem dX5_copyFrom_5 : decode cX5_copyFrom 5 = .ok (.putfield 9, 3) := by decide +kernel
theorem dX5_copyFrom_8 : decode cX5_copyFrom 8 = .ok (.aload_n 0, 1) := by decide +kernel
theorem dX5_copyFrom_9 : decode cX5_copyFrom 9 = .ok (.aload_n 1, 1) := by decide +kernel
theorem dX5_copyFrom_10 : decode cX5_copyFrom 10 = .ok (.getfield 53, 3) := by decide +kernel
theorem dX5_copyFrom_13 : decode cX5_copyFrom 13 = .ok (.putfield 53, 3) := by decide +kernel
theorem dX5_copyFrom_16 : decode cX5_copyFrom 16 = .ok (.aload_n 0, 1) := by decide +kernel
theorem dX5_copyFrom_17 : decode cX5_copyFrom 17 = .ok (.aload_n 1, 1) := by decide +kernel
theorem dX5_copyFrom_18 : decode cX5_copyFrom 18 = .ok (.getfield 56, 3) := by decide +kernel
theorem dX5_copyFrom_21 : decode cX5_copyFrom 21 = .ok (.putfield 56, 3) := by decide +kernel
theorem dX5_copyFrom_24 : decode cX5_copyFrom 24 = .ok (.aload_n 0, 1) := by decide +kernel
theorem dX5_copyFrom_25 : decode cX5_copyFrom 25 = .ok (.aload_n 1, 1) := by decide +kernel
theorem dX5_copyFrom_26 : decode cX5_copyFrom 26 = .ok (.getfield 15, 3) := by decide +kernel
theorem dX5_copyFrom_29 : decode cX5_copyFrom 29 = .ok (.putfield 15, 3) := by decide +kernel
theorem dX5_copyFrom_32 : decode cX5_copyFrom 32 = .ok (.aload_n 0, 1) := by decide +kernel
theorem dX5_copyFrom_33 : decode cX5_copyFrom 33 = .ok (.aload_n 1, 1) := by decide +kernel
theorem dX5_copyFrom_34 : decode cX5_copyFrom 34 = .ok (.getfield 18, 3) := by decide +kernel
theorem dX5_copyFrom_37 : decode cX5_copyFrom 37 = .ok (.putfield 18, 3) := by decide +kernel
theorem dX5_copyFrom_40 : decode cX5_copyFrom 40 = .ok (.aload_n 0, 1) := by decide +kernel
theorem dX5_copyFrom_41 : decode cX5_copyFrom 41 = .ok (.aload_n 1, 1) := by decide +kernel
theorem dX5_copyFrom_42 : decode cX5_copyFrom 42 = .ok (.getfield 59, 3) := by decide +kernel
theorem dX5_copyFrom_45 : decode cX5_copyFrom 45 = .ok (.putfield 59, 3) := by decide +kernel
theorem dX5_copyFrom_48 : decode cX5_copyFrom 48 = .ok (.aload_n 0, 1) := by decide +kernel
theorem dX5_copyFrom_49 : decode cX5_copyFrom 49 = .ok (.aload_n 1, 1) := by decide +kernel
theorem dX5_copyFrom_50 : decode cX5_copyFrom 50 = .ok (.getfield 62, 3) := by decide +kernel
theorem dX5_copyFrom_53 : decode cX5_copyFrom 53 = .ok (.putfield 62, 3) := by decide +kernel
theorem dX5_copyFrom_56 : decode cX5_copyFrom 56 = .ok (.aload_n 0, 1) := by decide +kernel
theorem dX5_copyFrom_57 : decode cX5_copyFrom 57 = .ok (.aload_n 1, 1) := by decide +kernel
theorem dX5_copyFrom_58 : decode cX5_copyFrom 58 = .ok (.getfield 65, 3) := by decide +kernel
theorem dX5_copyFrom_61 : decode cX5_copyFrom 61 = .ok (.putfield 65, 3) := by decide +kernel
theorem dX5_copyFrom_64 : decode cX5_copyFrom 64 = .ok (.aload_n 1, 1) := by decide +kernel
theorem dX5_copyFrom_65 : decode cX5_copyFrom 65 = .ok (.getfield 21, 3) := by decide +kernel
theorem dX5_copyFrom_68 : decode cX5_copyFrom 68 = .ok (.aload_n 0, 1) := by decide +kernel
theorem dX5_copyFrom_69 : decode cX5_copyFrom 69 = .ok (.getfield 21, 3) := by decide +kernel
theorem dX5_copyFrom_72 : decode cX5_copyFrom 72 = .ok (.invokestatic 68, 3) := by decide +kernel
theorem dX5_copyFrom_75 : decode cX5_copyFrom 75 = .ok (.aload_n 0, 1) := by decide +kernel
theorem dX5_copyFrom_76 : decode cX5_copyFrom 76 = .ok (.getfield 28, 3) := by decide +kernel
theorem dX5_copyFrom_79 : decode cX5_copyFrom 79 = .ok (.aload_n 1, 1) := by decide +kernel
theorem dX5_copyFrom_80 : decode cX5_copyFrom 80 = .ok (.getfield 28, 3) := by decide +kernel
theorem dX5_copyFrom_83 : decode cX5_copyFrom 83 = .ok (.invokevirtual 72, 3) := by decide +kernel
theorem dX5_copyFrom_86 : decode cX5_copyFrom 86 = .ok (.aload_n 0, 1) := by decide +kernel
theorem dX5_copyFrom_87 : decode cX5_copyFrom 87 = .ok (.getfield 35, 3) := by decide +kernel
theorem dX5_copyFrom_90 : decode cX5_copyFrom 90 = .ok (.aload_n 1, 1) := by decide +kernel
theorem dX5_copyFrom_91 : decode cX5_copyFrom 91 = .ok (.getfield 35, 3) := by decide +kernel
theorem dX5_copyFrom_94 : decode cX5_copyFrom 94 = .ok (.invokevirtual 76, 3) := by decide +kernel
theorem dX5_copyFrom_97 : decode cX5_copyFrom 97 = .ok (.aload_n 0, 1) := by decide +kernel
theorem dX5_copyFrom_98 : decode cX5_copyFrom 98 = .ok (.getfield 42, 3) := by decide +kernel
theorem dX5_copyFrom_101 : decode cX5_copyFrom 101 = .ok (.aload_n 1, 1) := by decide +kernel
theorem dX5_copyFrom_102 : decode cX5_copyFrom 102 = .ok (.getfield 42, 3) := by decide +kernel
theorem dX5_copyFrom_105 : decode cX5_copyFrom 105 = .ok (.invokevirtual 79, 3) := by decide +kernel
theorem dX5_copyFrom_108 : decode cX5_copyFrom 108 = .ok (.aload_n 0, 1) := by decide +kernel
theorem dX5_copyFrom_109 : decode cX5_copyFrom 109 = .ok (.getfield 49, 3) := by decide +kernel
theorem dX5_copyFrom_112 : decode cX5_copyFrom 112 = .ok (.aload_n 1, 1) := by decide +kernel
theorem dX5_copyFrom_113 : decode cX5_copyFrom 113 = .ok (.getfield 49, 3) := by decide +kernel
theorem dX5_copyFrom_116 : decode cX5_copyFrom 116 = .ok (.invokevirtual 82, 3) := by decide +kernel
theorem dX5_copyFrom_119 : decode cX5_copyFrom 119 = .ok (.return_, 1) := by decide +kernel
theorem dX5_hasCam_0 : decode cX5_hasCam 0 = .ok (.aload_n 0, 1) := by decide +kernel
theorem dX5_hasCam_1 : decode cX5_hasCam 1 = .ok (.getfield 21, 3) := by decide +kernel
theorem dX5_hasCam_4 : decode cX5_hasCam 4 = .ok (.iload_n 1, 1) := by decide +kernel
theorem dX5_hasCam_5 : decode cX5_hasCam 5 = .ok (.iaload, 1) := by decide +kernel
theorem dX5_hasCam_6 : decode cX5_hasCam 6 = .ok (.iload_n 2, 1) := by decide +kernel
theorem dX5_hasCam_7 : decode cX5_hasCam 7 = .ok (.ishr, 1) := by decide +kernel
theorem dX5_hasCam_8 : decode cX5_hasCam 8 = .ok (.iconst 1, 1) := by decide +kernel
theorem dX5_hasCam_9 : decode cX5_hasCam 9 = .ok (.iand, 1) := by decide +kernel
theorem dX5_hasCam_10 : decode cX5_hasCam 10 = .ok (.iconst 1, 1) := by decide +kernel
theorem dX5_hasCam_11 : decode cX5_hasCam 11 = .ok (.if_icmp .ne 7, 3) := by decide +kernel
theorem dX5_hasCam_14 : decode cX5_hasCam 14 = .ok (.iconst 1, 1) := by decide +kernel
theorem dX5_hasCam_15 : decode cX5_hasCam 15 = .ok (.goto 4, 3) := by decide +kernel
theorem dX5_hasCam_18 : decode cX5_hasCam 18 = .ok (.iconst 0, 1) := by decide +kernel
theorem dX5_hasCam_19 : decode cX5_hasCam 19 = .ok (.ireturn, 1) := by decide +kernel
theorem dX5_putCam_0 : decode cX5_putCam 0 = .ok (.iconst 1, 1) := by decide +kernel
theorem dX5_putCam_1 : decode cX5_putCam 1 = .ok (.iload_n 2, 1) := by decide +kernel
theorem dX5_putCam_2 : decode cX5_putCam 2 = .ok (.ishl, 1) := by decide +kernel
theorem dX5_putCam_3 : decode cX5_putCam 3 = .ok (.istore 4, 2) := by decide +kernel
theorem dX5_putCam_5 : decode cX5_putCam 5 = .ok (.aload_n 0, 1) := by decide +kernel
theorem dX5_putCam_6 : decode cX5_putCam 6 = .ok (.getfield 21, 3) := by decide +kernel
theorem dX5_putCam_9 : decode cX5_putCam 9 = .ok (.iload_n 1, 1) := by decide +kernel
theorem dX5_putCam_10 : decode cX5_putCam 10 = .ok (.iload_n 3, 1) := by decide +kernel
theorem dX5_putCam_11 : decode cX5_putCam 11 = .ok (.ifCond .eq 15, 3) := by decide +kernel
theorem dX5_putCam_14 : decode cX5_putCam 14 = .ok (.aload_n 0, 1) := by decide +kernel
theorem dX5_putCam_15 : decode cX5_putCam 15 = .ok (.getfield 21, 3) := by decide +kernel
theorem dX5_putCam_18 : decode cX5_putCam 18 = .ok (.iload_n 1, 1) := by decide +kernel
theorem dX5_putCam_19 : decode cX5_putCam 19 = .ok (.iaload, 1) := by decide +kernel
theorem dX5_putCam_20 : decode cX5_putCam 20 = .ok (.iload 4, 2) := by decide +kernel
theorem dX5_putCam_22 : decode cX5_putCam 22 = .ok (.ior, 1) := by decide +kernel
theorem dX5_putCam_23 : decode cX5_putCam 23 = .ok (.goto 14, 3) := by decide +kernel
theorem dX5_putCam_26 : decode cX5_putCam 26 = .ok (.aload_n 0, 1) := by decide +kernel
theorem dX5_putCam_27 : decode cX5_putCam 27 = .ok (.getfield 21, 3) := by decide +kernel
theorem dX5_putCam_30 : decode cX5_putCam 30 = .ok (.iload_n 1, 1) := by decide +kernel
theorem dX5_putCam_31 : decode cX5_putCam 31 = .ok (.iaload, 1) := by decide +kernel
theorem dX5_putCam_32 : decode cX5_putCam 32 = .ok (.iload 4, 2) := by decide +kernel
theorem dX5_putCam_34 : decode cX5_putCam 34 = .ok (.iconst (-1), 1) := by decide +kernel
theorem dX5_putCam_35 : decode cX5_putCam 35 = .ok (.ixor, 1) := by decide +kernel
theorem dX5_putCam_36 : decode cX5_putCam 36 = .ok (.iand, 1) := by decide +kernel
theorem dX5_putCam_37 : decode cX5_putCam 37 = .ok (.iastore, 1) := by decide +kernel
theorem dX5_putCam_38 : decode cX5_putCam 38 = .ok (.return_, 1) := by decide +kernel
theorem dX5_camsOf_0 : decode cX5_camsOf 0 = .ok (.aload_n 0, 1) := by decide +kernel
theorem dX5_camsOf_1 : decode cX5_camsOf 1 = .ok (.getfield 21, 3) := by decide +kernel
theorem dX5_camsOf_4 : decode cX5_camsOf 4 = .ok (.iload_n 1, 1) := by decide +kernel
theorem dX5_camsOf_5 : decode cX5_camsOf 5 = .ok (.iaload, 1) := by decide +kernel
theorem dX5_camsOf_6 : decode cX5_camsOf 6 = .ok (.invokestatic 85, 3) := by decide +kernel
theorem dX5_camsOf_9 : decode cX5_camsOf 9 = .ok (.ireturn, 1) := by decide +kernel
theorem dX5_standAt_0 : decode cX5_standAt 0 = .ok (.aload_n 0, 1) := by decide +kernel
theorem dX5_standAt_1 : decode cX5_standAt 1 = .ok (.iload_n 1, 1) := by decide +kernel
theorem dX5_standAt_2 : decode cX5_standAt 2 = .ok (.putfield 53, 3) := by decide +kernel
theorem dX5_standAt_5 : decode cX5_standAt 5 = .ok (.aload_n 0, 1) := by decide +kernel
theorem dX5_standAt_6 : decode cX5_standAt 6 = .ok (.iconst 0, 1) := by decide +kernel
theorem dX5_standAt_7 : decode cX5_standAt 7 = .ok (.putfield 56, 3) := by decide +kernel
theorem dX5_standAt_10 : decode cX5_standAt 10 = .ok (.return_, 1) := by decide +kernel
theorem dX5_tick_0 : decode cX5_tick 0 = .ok (.aload_n 0, 1) := by decide +kernel
theorem dX5_tick_1 : decode cX5_tick 1 = .ok (.dup, 1) := by decide +kernel
theorem dX5_tick_2 : decode cX5_tick 2 = .ok (.getfield 59, 3) := by decide +kernel
theorem dX5_tick_5 : decode cX5_tick 5 = .ok (.iconst 1, 1) := by decide +kernel
theorem dX5_tick_6 : decode cX5_tick 6 = .ok (.iadd, 1) := by decide +kernel
theorem dX5_tick_7 : decode cX5_tick 7 = .ok (.putfield 59, 3) := by decide +kernel
theorem dX5_tick_10 : decode cX5_tick 10 = .ok (.aload_n 0, 1) := by decide +kernel
theorem dX5_tick_11 : decode cX5_tick 11 = .ok (.getfield 28, 3) := by decide +kernel
theorem dX5_tick_14 : decode cX5_tick 14 = .ok (.invokevirtual 102, 3) := by decide +kernel
theorem dX5_tick_17 : decode cX5_tick 17 = .ok (.aload_n 0, 1) := by decide +kernel
theorem dX5_tick_18 : decode cX5_tick 18 = .ok (.invokevirtual 105, 3) := by decide +kernel
theorem dX5_tick_21 : decode cX5_tick 21 = .ok (.istore_n 1, 1) := by decide +kernel
theorem dX5_tick_22 : decode cX5_tick 22 = .ok (.iconst 0, 1) := by decide +kernel
theorem dX5_tick_23 : decode cX5_tick 23 = .ok (.istore_n 2, 1) := by decide +kernel
theorem dX5_tick_24 : decode cX5_tick 24 = .ok (.iload_n 2, 1) := by decide +kernel
theorem dX5_tick_25 : decode cX5_tick 25 = .ok (.iconst 5, 1) := by decide +kernel
theorem dX5_tick_26 : decode cX5_tick 26 = .ok (.if_icmp .ge 34, 3) := by decide +kernel
theorem dX5_tick_29 : decode cX5_tick 29 = .ok (.aload_n 0, 1) := by decide +kernel
theorem dX5_tick_30 : decode cX5_tick 30 = .ok (.iload_n 2, 1) := by decide +kernel
theorem dX5_tick_31 : decode cX5_tick 31 = .ok (.aload_n 0, 1) := by decide +kernel
theorem dX5_tick_32 : decode cX5_tick 32 = .ok (.getfield 53, 3) := by decide +kernel
theorem dX5_tick_35 : decode cX5_tick 35 = .ok (.invokevirtual 109, 3) := by decide +kernel
theorem dX5_tick_38 : decode cX5_tick 38 = .ok (.ifCond .eq 11, 3) := by decide +kernel
theorem dX5_tick_41 : decode cX5_tick 41 = .ok (.aload_n 0, 1) := by decide +kernel
theorem dX5_tick_42 : decode cX5_tick 42 = .ok (.iload_n 2, 1) := by decide +kernel
theorem dX5_tick_43 : decode cX5_tick 43 = .ok (.invokevirtual 113, 3) := by decide +kernel
theorem dX5_tick_46 : decode cX5_tick 46 = .ok (.goto 8, 3) := by decide +kernel
theorem dX5_tick_49 : decode cX5_tick 49 = .ok (.aload_n 0, 1) := by decide +kernel
theorem dX5_tick_50 : decode cX5_tick 50 = .ok (.iload_n 2, 1) := by decide +kernel
theorem dX5_tick_51 : decode cX5_tick 51 = .ok (.invokevirtual 116, 3) := by decide +kernel
theorem dX5_tick_54 : decode cX5_tick 54 = .ok (.iinc 2 1, 3) := by decide +kernel
theorem dX5_tick_57 : decode cX5_tick 57 = .ok (.goto (-33), 3) := by decide +kernel
theorem dX5_tick_60 : decode cX5_tick 60 = .ok (.iconst 0, 1) := by decide +kernel
theorem dX5_tick_61 : decode cX5_tick 61 = .ok (.istore_n 2, 1) := by decide +kernel
theorem dX5_tick_62 : decode cX5_tick 62 = .ok (.iload_n 2, 1) := by decide +kernel
theorem dX5_tick_63 : decode cX5_tick 63 = .ok (.iconst 5, 1) := by decide +kernel
theorem dX5_tick_64 : decode cX5_tick 64 = .ok (.if_icmp .ge 14, 3) := by decide +kernel
theorem dX5_tick_67 : decode cX5_tick 67 = .ok (.aload_n 0, 1) := by decide +kernel
theorem dX5_tick_68 : decode cX5_tick 68 = .ok (.iload_n 2, 1) := by decide +kernel
theorem dX5_tick_69 : decode cX5_tick 69 = .ok (.invokevirtual 119, 3) := by decide +kernel
theorem dX5_tick_72 : decode cX5_tick 72 = .ok (.iinc 2 1, 3) := by decide +kernel
theorem dX5_tick_75 : decode cX5_tick 75 = .ok (.goto (-13), 3) := by decide +kernel
theorem dX5_tick_78 : decode cX5_tick 78 = .ok (.iconst 0, 1) := by decide +kernel
theorem dX5_tick_79 : decode cX5_tick 79 = .ok (.istore_n 2, 1) := by decide +kernel
theorem dX5_tick_80 : decode cX5_tick 80 = .ok (.iload_n 2, 1) := by decide +kernel
theorem dX5_tick_81 : decode cX5_tick 81 = .ok (.iconst 5, 1) := by decide +kernel
theorem dX5_tick_82 : decode cX5_tick 82 = .ok (.if_icmp .ge 30, 3) := by decide +kernel
theorem dX5_tick_85 : decode cX5_tick 85 = .ok (.aload_n 0, 1) := by decide +kernel
theorem dX5_tick_86 : decode cX5_tick 86 = .ok (.getfield 49, 3) := by decide +kernel
theorem dX5_tick_89 : decode cX5_tick 89 = .ok (.iload_n 2, 1) := by decide +kernel
theorem dX5_tick_90 : decode cX5_tick 90 = .ok (.aload_n 0, 1) := by decide +kernel
theorem dX5_tick_91 : decode cX5_tick 91 = .ok (.getfield 53, 3) := by decide +kernel
theorem dX5_tick_94 : decode cX5_tick 94 = .ok (.aload_n 0, 1) := by decide +kernel
theorem dX5_tick_95 : decode cX5_tick 95 = .ok (.getfield 35, 3) := by decide +kernel
theorem dX5_tick_98 : decode cX5_tick 98 = .ok (.getfield 122, 3) := by decide +kernel
theorem dX5_tick_101 : decode cX5_tick 101 = .ok (.iload_n 2, 1) := by decide +kernel
theorem dX5_tick_102 : decode cX5_tick 102 = .ok (.iaload, 1) := by decide +kernel
theorem dX5_tick_103 : decode cX5_tick 103 = .ok (.invokevirtual 125, 3) := by decide +kernel
theorem dX5_tick_106 : decode cX5_tick 106 = .ok (.iinc 2 1, 3) := by decide +kernel
theorem dX5_tick_109 : decode cX5_tick 109 = .ok (.goto (-29), 3) := by decide +kernel
theorem dX5_tick_112 : decode cX5_tick 112 = .ok (.iload_n 1, 1) := by decide +kernel
theorem dX5_tick_113 : decode cX5_tick 113 = .ok (.ireturn, 1) := by decide +kernel
theorem dX5_moveDrum_0 : decode cX5_moveDrum 0 = .ok (.aload_n 0, 1) := by decide +kernel
theorem dX5_moveDrum_1 : decode cX5_moveDrum 1 = .ok (.dup, 1) := by decide +kernel
theorem dX5_moveDrum_2 : decode cX5_moveDrum 2 = .ok (.getfield 56, 3) := by decide +kernel
theorem dX5_moveDrum_5 : decode cX5_moveDrum 5 = .ok (.iconst 1, 1) := by decide +kernel
theorem dX5_moveDrum_6 : decode cX5_moveDrum 6 = .ok (.iadd, 1) := by decide +kernel
theorem dX5_moveDrum_7 : decode cX5_moveDrum 7 = .ok (.putfield 56, 3) := by decide +kernel
theorem dX5_moveDrum_10 : decode cX5_moveDrum 10 = .ok (.aload_n 0, 1) := by decide +kernel
theorem dX5_moveDrum_11 : decode cX5_moveDrum 11 = .ok (.getfield 56, 3) := by decide +kernel
theorem dX5_moveDrum_14 : decode cX5_moveDrum 14 = .ok (.aload_n 0, 1) := by decide +kernel
theorem dX5_moveDrum_15 : decode cX5_moveDrum 15 = .ok (.getfield 15, 3) := by decide +kernel
theorem dX5_moveDrum_18 : decode cX5_moveDrum 18 = .ok (.if_icmp .ge 5, 3) := by decide +kernel
theorem dX5_moveDrum_21 : decode cX5_moveDrum 21 = .ok (.iconst 0, 1) := by decide +kernel
theorem dX5_moveDrum_22 : decode cX5_moveDrum 22 = .ok (.ireturn, 1) := by decide +kernel
theorem dX5_moveDrum_23 : decode cX5_moveDrum 23 = .ok (.aload_n 0, 1) := by decide +kernel
theorem dX5_moveDrum_24 : decode cX5_moveDrum 24 = .ok (.getfield 28, 3) := by decide +kernel
theorem dX5_moveDrum_27 : decode cX5_moveDrum 27 = .ok (.getfield 129, 3) := by decide +kernel
theorem dX5_moveDrum_30 : decode cX5_moveDrum 30 = .ok (.aload_n 0, 1) := by decide +kernel
theorem dX5_moveDrum_31 : decode cX5_moveDrum 31 = .ok (.getfield 18, 3) := by decide +kernel
theorem dX5_moveDrum_34 : decode cX5_moveDrum 34 = .ok (.if_icmp .ge 31, 3) := by decide +kernel
theorem dX5_moveDrum_37 : decode cX5_moveDrum 37 = .ok (.aload_n 0, 1) := by decide +kernel
theorem dX5_moveDrum_38 : decode cX5_moveDrum 38 = .ok (.iconst 0, 1) := by decide +kernel
theorem dX5_moveDrum_39 : decode cX5_moveDrum 39 = .ok (.putfield 56, 3) := by decide +kernel
theorem dX5_moveDrum_42 : decode cX5_moveDrum 42 = .ok (.aload_n 0, 1) := by decide +kernel
theorem dX5_moveDrum_43 : decode cX5_moveDrum 43 = .ok (.dup, 1) := by decide +kernel
theorem dX5_moveDrum_44 : decode cX5_moveDrum 44 = .ok (.getfield 65, 3) := by decide +kernel
theorem dX5_moveDrum_47 : decode cX5_moveDrum 47 = .ok (.iconst 1, 1) := by decide +kernel
theorem dX5_moveDrum_48 : decode cX5_moveDrum 48 = .ok (.iadd, 1) := by decide +kernel
theorem dX5_moveDrum_49 : decode cX5_moveDrum 49 = .ok (.putfield 65, 3) := by decide +kernel
theorem dX5_moveDrum_52 : decode cX5_moveDrum 52 = .ok (.aload_n 0, 1) := by decide +kernel
theorem dX5_moveDrum_53 : decode cX5_moveDrum 53 = .ok (.getfield 49, 3) := by decide +kernel
theorem dX5_moveDrum_56 : decode cX5_moveDrum 56 = .ok (.aload_n 0, 1) := by decide +kernel
theorem dX5_moveDrum_57 : decode cX5_moveDrum 57 = .ok (.getfield 53, 3) := by decide +kernel
theorem dX5_moveDrum_60 : decode cX5_moveDrum 60 = .ok (.invokevirtual 132, 3) := by decide +kernel
theorem dX5_moveDrum_63 : decode cX5_moveDrum 63 = .ok (.iconst 1, 1) := by decide +kernel
theorem dX5_moveDrum_64 : decode cX5_moveDrum 64 = .ok (.ireturn, 1) := by decide +kernel
theorem dX5_moveDrum_65 : decode cX5_moveDrum 65 = .ok (.aload_n 0, 1) := by decide +kernel
theorem dX5_moveDrum_66 : decode cX5_moveDrum 66 = .ok (.aload_n 0, 1) := by decide +kernel
theorem dX5_moveDrum_67 : decode cX5_moveDrum 67 = .ok (.getfield 53, 3) := by decide +kernel
theorem dX5_moveDrum_70 : decode cX5_moveDrum 70 = .ok (.iconst 1, 1) := by decide +kernel
theorem dX5_moveDrum_71 : decode cX5_moveDrum 71 = .ok (.iadd, 1) := by decide +kernel
theorem dX5_moveDrum_72 : decode cX5_moveDrum 72 = .ok (.aload_n 0, 1) := by decide +kernel
theorem dX5_moveDrum_73 : decode cX5_moveDrum 73 = .ok (.getfield 9, 3) := by decide +kernel
theorem dX5_moveDrum_76 : decode cX5_moveDrum 76 = .ok (.if_icmp .ge 12, 3) := by decide +kernel
theorem dX5_moveDrum_79 : decode cX5_moveDrum 79 = .ok (.aload_n 0, 1) := by decide +kernel
theorem dX5_moveDrum_80 : decode cX5_moveDrum 80 = .ok (.getfield 53, 3) := by decide +kernel
theorem dX5_moveDrum_83 : decode cX5_moveDrum 83 = .ok (.iconst 1, 1) := by decide +kernel
theorem dX5_moveDrum_84 : decode cX5_moveDrum 84 = .ok (.iadd, 1) := by decide +kernel
theorem dX5_moveDrum_85 : decode cX5_moveDrum 85 = .ok (.goto 4, 3) := by decide +kernel
theorem dX5_moveDrum_88 : decode cX5_moveDrum 88 = .ok (.iconst 0, 1) := by decide +kernel
theorem dX5_moveDrum_89 : decode cX5_moveDrum 89 = .ok (.invokevirtual 95, 3) := by decide +kernel
theorem dX5_moveDrum_92 : decode cX5_moveDrum 92 = .ok (.aload_n 0, 1) := by decide +kernel
theorem dX5_moveDrum_93 : decode cX5_moveDrum 93 = .ok (.getfield 53, 3) := by decide +kernel
theorem dX5_moveDrum_96 : decode cX5_moveDrum 96 = .ok (.ifCond .le 5, 3) := by decide +kernel
theorem dX5_moveDrum_99 : decode cX5_moveDrum 99 = .ok (.iconst 2, 1) := by decide +kernel
theorem dX5_moveDrum_100 : decode cX5_moveDrum 100 = .ok (.ireturn, 1) := by decide +kernel
theorem dX5_moveDrum_101 : decode cX5_moveDrum 101 = .ok (.aload_n 0, 1) := by decide +kernel
theorem dX5_moveDrum_102 : decode cX5_moveDrum 102 = .ok (.dup, 1) := by decide +kernel
theorem dX5_moveDrum_103 : decode cX5_moveDrum 103 = .ok (.getfield 62, 3) := by decide +kernel
theorem dX5_moveDrum_106 : decode cX5_moveDrum 106 = .ok (.iconst 1, 1) := by decide +kernel
theorem dX5_moveDrum_107 : decode cX5_moveDrum 107 = .ok (.iadd, 1) := by decide +kernel
theorem dX5_moveDrum_108 : decode cX5_moveDrum 108 = .ok (.putfield 62, 3) := by decide +kernel
theorem dX5_moveDrum_111 : decode cX5_moveDrum 111 = .ok (.iconst 3, 1) := by decide +kernel
theorem dX5_moveDrum_112 : decode cX5_moveDrum 112 = .ok (.ireturn, 1) := by decide +kernel
theorem dX5_moveOut_0 : decode cX5_moveOut 0 = .ok (.aload_n 0, 1) := by decide +kernel
theorem dX5_moveOut_1 : decode cX5_moveOut 1 = .ok (.getfield 35, 3) := by decide +kernel
theorem dX5_moveOut_4 : decode cX5_moveOut 4 = .ok (.getfield 135, 3) := by decide +kernel
theorem dX5_moveOut_7 : decode cX5_moveOut 7 = .ok (.iload_n 1, 1) := by decide +kernel
theorem dX5_moveOut_8 : decode cX5_moveOut 8 = .ok (.iaload, 1) := by decide +kernel
theorem dX5_moveOut_9 : decode cX5_moveOut 9 = .ok (.aload_n 0, 1) := by decide +kernel
theorem dX5_moveOut_10 : decode cX5_moveOut 10 = .ok (.iload_n 1, 1) := by decide +kernel
theorem dX5_moveOut_11 : decode cX5_moveOut 11 = .ok (.invokevirtual 138, 3) := by decide +kernel
theorem dX5_moveOut_14 : decode cX5_moveOut 14 = .ok (.invokestatic 141, 3) := by decide +kernel
theorem dX5_moveOut_17 : decode cX5_moveOut 17 = .ok (.istore_n 2, 1) := by decide +kernel
theorem dX5_moveOut_18 : decode cX5_moveOut 18 = .ok (.iload_n 2, 1) := by decide +kernel
theorem dX5_moveOut_19 : decode cX5_moveOut 19 = .ok (.aload_n 0, 1) := by decide +kernel
theorem dX5_moveOut_20 : decode cX5_moveOut 20 = .ok (.getfield 28, 3) := by decide +kernel
theorem dX5_moveOut_23 : decode cX5_moveOut 23 = .ok (.aload_n 0, 1) := by decide +kernel
theorem dX5_moveOut_24 : decode cX5_moveOut 24 = .ok (.getfield 35, 3) := by decide +kernel
theorem dX5_moveOut_27 : decode cX5_moveOut 27 = .ok (.getfield 147, 3) := by decide +kernel
theorem dX5_moveOut_30 : decode cX5_moveOut 30 = .ok (.iload_n 1, 1) := by decide +kernel
theorem dX5_moveOut_31 : decode cX5_moveOut 31 = .ok (.iaload, 1) := by decide +kernel
theorem dX5_moveOut_32 : decode cX5_moveOut 32 = .ok (.invokevirtual 150, 3) := by decide +kernel
theorem dX5_moveOut_35 : decode cX5_moveOut 35 = .ok (.invokestatic 141, 3) := by decide +kernel
theorem dX5_moveOut_38 : decode cX5_moveOut 38 = .ok (.istore_n 2, 1) := by decide +kernel
theorem dX5_moveOut_39 : decode cX5_moveOut 39 = .ok (.aload_n 0, 1) := by decide +kernel
theorem dX5_moveOut_40 : decode cX5_moveOut 40 = .ok (.getfield 35, 3) := by decide +kernel
theorem dX5_moveOut_43 : decode cX5_moveOut 43 = .ok (.getfield 147, 3) := by decide +kernel
theorem dX5_moveOut_46 : decode cX5_moveOut 46 = .ok (.iload_n 1, 1) := by decide +kernel
theorem dX5_moveOut_47 : decode cX5_moveOut 47 = .ok (.iaload, 1) := by decide +kernel
theorem dX5_moveOut_48 : decode cX5_moveOut 48 = .ok (.iload_n 2, 1) := by decide +kernel
theorem dX5_moveOut_49 : decode cX5_moveOut 49 = .ok (.imul, 1) := by decide +kernel
theorem dX5_moveOut_50 : decode cX5_moveOut 50 = .ok (.istore_n 3, 1) := by decide +kernel
theorem dX5_moveOut_51 : decode cX5_moveOut 51 = .ok (.aload_n 0, 1) := by decide +kernel
theorem dX5_moveOut_52 : decode cX5_moveOut 52 = .ok (.getfield 28, 3) := by decide +kernel
theorem dX5_moveOut_55 : decode cX5_moveOut 55 = .ok (.iload_n 3, 1) := by decide +kernel
theorem dX5_moveOut_56 : decode cX5_moveOut 56 = .ok (.invokevirtual 153, 3) := by decide +kernel
theorem dX5_moveOut_59 : decode cX5_moveOut 59 = .ok (.aload_n 0, 1) := by decide +kernel
theorem dX5_moveOut_60 : decode cX5_moveOut 60 = .ok (.getfield 35, 3) := by decide +kernel
theorem dX5_moveOut_63 : decode cX5_moveOut 63 = .ok (.getfield 156, 3) := by decide +kernel
theorem dX5_moveOut_66 : decode cX5_moveOut 66 = .ok (.iload_n 1, 1) := by decide +kernel
theorem dX5_moveOut_67 : decode cX5_moveOut 67 = .ok (.dup2, 1) := by decide +kernel
theorem dX5_moveOut_68 : decode cX5_moveOut 68 = .ok (.iaload, 1) := by decide +kernel
theorem dX5_moveOut_69 : decode cX5_moveOut 69 = .ok (.iload_n 3, 1) := by decide +kernel
theorem dX5_moveOut_70 : decode cX5_moveOut 70 = .ok (.iadd, 1) := by decide +kernel
theorem dX5_moveOut_71 : decode cX5_moveOut 71 = .ok (.iastore, 1) := by decide +kernel
theorem dX5_moveOut_72 : decode cX5_moveOut 72 = .ok (.aload_n 0, 1) := by decide +kernel
theorem dX5_moveOut_73 : decode cX5_moveOut 73 = .ok (.getfield 35, 3) := by decide +kernel
theorem dX5_moveOut_76 : decode cX5_moveOut 76 = .ok (.getfield 122, 3) := by decide +kernel
theorem dX5_moveOut_79 : decode cX5_moveOut 79 = .ok (.iload_n 1, 1) := by decide +kernel
theorem dX5_moveOut_80 : decode cX5_moveOut 80 = .ok (.dup2, 1) := by decide +kernel
theorem dX5_moveOut_81 : decode cX5_moveOut 81 = .ok (.iaload, 1) := by decide +kernel
theorem dX5_moveOut_82 : decode cX5_moveOut 82 = .ok (.iload_n 2, 1) := by decide +kernel
theorem dX5_moveOut_83 : decode cX5_moveOut 83 = .ok (.iadd, 1) := by decide +kernel
theorem dX5_moveOut_84 : decode cX5_moveOut 84 = .ok (.iastore, 1) := by decide +kernel
theorem dX5_moveOut_85 : decode cX5_moveOut 85 = .ok (.return_, 1) := by decide +kernel
theorem dX5_moveIn_0 : decode cX5_moveIn 0 = .ok (.aload_n 0, 1) := by decide +kernel
theorem dX5_moveIn_1 : decode cX5_moveIn 1 = .ok (.getfield 35, 3) := by decide +kernel
theorem dX5_moveIn_4 : decode cX5_moveIn 4 = .ok (.getfield 122, 3) := by decide +kernel
theorem dX5_moveIn_7 : decode cX5_moveIn 7 = .ok (.iload_n 1, 1) := by decide +kernel
theorem dX5_moveIn_8 : decode cX5_moveIn 8 = .ok (.aload_n 0, 1) := by decide +kernel
theorem dX5_moveIn_9 : decode cX5_moveIn 9 = .ok (.getfield 35, 3) := by decide +kernel
theorem dX5_moveIn_12 : decode cX5_moveIn 12 = .ok (.getfield 122, 3) := by decide +kernel
theorem dX5_moveIn_15 : decode cX5_moveIn 15 = .ok (.iload_n 1, 1) := by decide +kernel
theorem dX5_moveIn_16 : decode cX5_moveIn 16 = .ok (.iaload, 1) := by decide +kernel
theorem dX5_moveIn_17 : decode cX5_moveIn 17 = .ok (.aload_n 0, 1) := by decide +kernel
theorem dX5_moveIn_18 : decode cX5_moveIn 18 = .ok (.getfield 35, 3) := by decide +kernel
theorem dX5_moveIn_21 : decode cX5_moveIn 21 = .ok (.getfield 135, 3) := by decide +kernel
theorem dX5_moveIn_24 : decode cX5_moveIn 24 = .ok (.iload_n 1, 1) := by decide +kernel
theorem dX5_moveIn_25 : decode cX5_moveIn 25 = .ok (.iaload, 1) := by decide +kernel
theorem dX5_moveIn_26 : decode cX5_moveIn 26 = .ok (.isub, 1) := by decide +kernel
theorem dX5_moveIn_27 : decode cX5_moveIn 27 = .ok (.iconst 0, 1) := by decide +kernel
theorem dX5_moveIn_28 : decode cX5_moveIn 28 = .ok (.invokestatic 159, 3) := by decide +kernel
theorem dX5_moveIn_31 : decode cX5_moveIn 31 = .ok (.iastore, 1) := by decide +kernel
theorem dX5_moveIn_32 : decode cX5_moveIn 32 = .ok (.return_, 1) := by decide +kernel
theorem dX5_leakAt_0 : decode cX5_leakAt 0 = .ok (.aload_n 0, 1) := by decide +kernel
theorem dX5_leakAt_1 : decode cX5_leakAt 1 = .ok (.iload_n 1, 1) := by decide +kernel
theorem dX5_leakAt_2 : decode cX5_leakAt 2 = .ok (.aload_n 0, 1) := by decide +kernel
theorem dX5_leakAt_3 : decode cX5_leakAt 3 = .ok (.getfield 53, 3) := by decide +kernel
theorem dX5_leakAt_6 : decode cX5_leakAt 6 = .ok (.invokevirtual 109, 3) := by decide +kernel
theorem dX5_leakAt_9 : decode cX5_leakAt 9 = .ok (.ifCond .eq 43, 3) := by decide +kernel
theorem dX5_leakAt_12 : decode cX5_leakAt 12 = .ok (.aload_n 0, 1) := by decide +kernel
theorem dX5_leakAt_13 : decode cX5_leakAt 13 = .ok (.getfield 35, 3) := by decide +kernel
theorem dX5_leakAt_16 : decode cX5_leakAt 16 = .ok (.getfield 122, 3) := by decide +kernel
theorem dX5_leakAt_19 : decode cX5_leakAt 19 = .ok (.iload_n 1, 1) := by decide +kernel
theorem dX5_leakAt_20 : decode cX5_leakAt 20 = .ok (.iaload, 1) := by decide +kernel
theorem dX5_leakAt_21 : decode cX5_leakAt 21 = .ok (.ifCond .le 31, 3) := by decide +kernel
theorem dX5_leakAt_24 : decode cX5_leakAt 24 = .ok (.aload_n 0, 1) := by decide +kernel
theorem dX5_leakAt_25 : decode cX5_leakAt 25 = .ok (.getfield 35, 3) := by decide +kernel
theorem dX5_leakAt_28 : decode cX5_leakAt 28 = .ok (.getfield 162, 3) := by decide +kernel
theorem dX5_leakAt_31 : decode cX5_leakAt 31 = .ok (.iload_n 1, 1) := by decide +kernel
theorem dX5_leakAt_32 : decode cX5_leakAt 32 = .ok (.dup2, 1) := by decide +kernel
theorem dX5_leakAt_33 : decode cX5_leakAt 33 = .ok (.iaload, 1) := by decide +kernel
theorem dX5_leakAt_34 : decode cX5_leakAt 34 = .ok (.aload_n 0, 1) := by decide +kernel
theorem dX5_leakAt_35 : decode cX5_leakAt 35 = .ok (.getfield 28, 3) := by decide +kernel
theorem dX5_leakAt_38 : decode cX5_leakAt 38 = .ok (.aload_n 0, 1) := by decide +kernel
theorem dX5_leakAt_39 : decode cX5_leakAt 39 = .ok (.getfield 35, 3) := by decide +kernel
theorem dX5_leakAt_42 : decode cX5_leakAt 42 = .ok (.getfield 165, 3) := by decide +kernel
theorem dX5_leakAt_45 : decode cX5_leakAt 45 = .ok (.iload_n 1, 1) := by decide +kernel
theorem dX5_leakAt_46 : decode cX5_leakAt 46 = .ok (.iaload, 1) := by decide +kernel
theorem dX5_leakAt_47 : decode cX5_leakAt 47 = .ok (.invokevirtual 168, 3) := by decide +kernel
theorem dX5_leakAt_50 : decode cX5_leakAt 50 = .ok (.iadd, 1) := by decide +kernel
theorem dX5_leakAt_51 : decode cX5_leakAt 51 = .ok (.iastore, 1) := by decide +kernel
theorem dX5_leakAt_52 : decode cX5_leakAt 52 = .ok (.return_, 1) := by decide +kernel
theorem dX5_roomByGuards_0 : decode cX5_roomByGuards 0 = .ok (.bipush 100, 2) := by decide +kernel
theorem dX5_roomByGuards_2 : decode cX5_roomByGuards 2 = .ok (.aload_n 0, 1) := by decide +kernel
theorem dX5_roomByGuards_3 : decode cX5_roomByGuards 3 = .ok (.getfield 35, 3) := by decide +kernel
theorem dX5_roomByGuards_6 : decode cX5_roomByGuards 6 = .ok (.getfield 122, 3) := by decide +kernel
theorem dX5_roomByGuards_9 : decode cX5_roomByGuards 9 = .ok (.iload_n 1, 1) := by decide +kernel
theorem dX5_roomByGuards_10 : decode cX5_roomByGuards 10 = .ok (.iaload, 1) := by decide +kernel
theorem dX5_roomByGuards_11 : decode cX5_roomByGuards 11 = .ok (.isub, 1) := by decide +kernel
theorem dX5_roomByGuards_12 : decode cX5_roomByGuards 12 = .ok (.istore_n 2, 1) := by decide +kernel
theorem dX5_roomByGuards_13 : decode cX5_roomByGuards 13 = .ok (.iconst 0, 1) := by decide +kernel
theorem dX5_roomByGuards_14 : decode cX5_roomByGuards 14 = .ok (.istore_n 3, 1) := by decide +kernel
theorem dX5_roomByGuards_15 : decode cX5_roomByGuards 15 = .ok (.iload_n 3, 1) := by decide +kernel
theorem dX5_roomByGuards_16 : decode cX5_roomByGuards 16 = .ok (.aload_n 0, 1) := by decide +kernel
theorem dX5_roomByGuards_17 : decode cX5_roomByGuards 17 = .ok (.getfield 42, 3) := by decide +kernel
theorem dX5_roomByGuards_20 : decode cX5_roomByGuards 20 = .ok (.getfield 171, 3) := by decide +kernel
theorem dX5_roomByGuards_23 : decode cX5_roomByGuards 23 = .ok (.if_icmp .ge 59, 3) := by decide +kernel
theorem dX5_roomByGuards_26 : decode cX5_roomByGuards 26 = .ok (.iload_n 3, 1) := by decide +kernel
theorem dX5_roomByGuards_27 : decode cX5_roomByGuards 27 = .ok (.iconst 4, 1) := by decide +kernel
theorem dX5_roomByGuards_28 : decode cX5_roomByGuards 28 = .ok (.if_icmp .ge 54, 3) := by decide +kernel
theorem dX5_roomByGuards_31 : decode cX5_roomByGuards 31 = .ok (.aload_n 0, 1) := by decide +kernel
theorem dX5_roomByGuards_32 : decode cX5_roomByGuards 32 = .ok (.getfield 42, 3) := by decide +kernel
theorem dX5_roomByGuards_35 : decode cX5_roomByGuards 35 = .ok (.getfield 174, 3) := by decide +kernel
theorem dX5_roomByGuards_38 : decode cX5_roomByGuards 38 = .ok (.iload_n 3, 1) := by decide +kernel
theorem dX5_roomByGuards_39 : decode cX5_roomByGuards 39 = .ok (.iaload, 1) := by decide +kernel
theorem dX5_roomByGuards_40 : decode cX5_roomByGuards 40 = .ok (.iload_n 1, 1) := by decide +kernel
theorem dX5_roomByGuards_41 : decode cX5_roomByGuards 41 = .ok (.if_icmp .ne 35, 3) := by decide +kernel
theorem dX5_roomByGuards_44 : decode cX5_roomByGuards 44 = .ok (.aload_n 0, 1) := by decide +kernel
theorem dX5_roomByGuards_45 : decode cX5_roomByGuards 45 = .ok (.iload_n 3, 1) := by decide +kernel
theorem dX5_roomByGuards_46 : decode cX5_roomByGuards 46 = .ok (.invokevirtual 177, 3) := by decide +kernel
theorem dX5_roomByGuards_49 : decode cX5_roomByGuards 49 = .ok (.ifCond .eq 27, 3) := by decide +kernel
theorem dX5_roomByGuards_52 : decode cX5_roomByGuards 52 = .ok (.iload_n 2, 1) := by decide +kernel
theorem dX5_roomByGuards_53 : decode cX5_roomByGuards 53 = .ok (.aload_n 0, 1) := by decide +kernel
theorem dX5_roomByGuards_54 : decode cX5_roomByGuards 54 = .ok (.getfield 42, 3) := by decide +kernel
theorem dX5_roomByGuards_57 : decode cX5_roomByGuards 57 = .ok (.getfield 181, 3) := by decide +kernel
theorem dX5_roomByGuards_60 : decode cX5_roomByGuards 60 = .ok (.iload_n 3, 1) := by decide +kernel
theorem dX5_roomByGuards_61 : decode cX5_roomByGuards 61 = .ok (.iaload, 1) := by decide +kernel
theorem dX5_roomByGuards_62 : decode cX5_roomByGuards 62 = .ok (.aload_n 0, 1) := by decide +kernel
theorem dX5_roomByGuards_63 : decode cX5_roomByGuards 63 = .ok (.getfield 35, 3) := by decide +kernel
theorem dX5_roomByGuards_66 : decode cX5_roomByGuards 66 = .ok (.getfield 122, 3) := by decide +kernel
theorem dX5_roomByGuards_69 : decode cX5_roomByGuards 69 = .ok (.iload_n 1, 1) := by decide +kernel
theorem dX5_roomByGuards_70 : decode cX5_roomByGuards 70 = .ok (.iaload, 1) := by decide +kernel
theorem dX5_roomByGuards_71 : decode cX5_roomByGuards 71 = .ok (.isub, 1) := by decide +kernel
theorem dX5_roomByGuards_72 : decode cX5_roomByGuards 72 = .ok (.invokestatic 141, 3) := by decide +kernel
theorem dX5_roomByGuards_75 : decode cX5_roomByGuards 75 = .ok (.istore_n 2, 1) := by decide +kernel
theorem dX5_roomByGuards_76 : decode cX5_roomByGuards 76 = .ok (.iinc 3 1, 3) := by decide +kernel
theorem dX5_roomByGuards_79 : decode cX5_roomByGuards 79 = .ok (.goto (-64), 3) := by decide +kernel
theorem dX5_roomByGuards_82 : decode cX5_roomByGuards 82 = .ok (.iload_n 2, 1) := by decide +kernel
theorem dX5_roomByGuards_83 : decode cX5_roomByGuards 83 = .ok (.iconst 0, 1) := by decide +kernel
theorem dX5_roomByGuards_84 : decode cX5_roomByGuards 84 = .ok (.invokestatic 159, 3) := by decide +kernel
theorem dX5_roomByGuards_87 : decode cX5_roomByGuards 87 = .ok (.ireturn, 1) := by decide +kernel
theorem dX5_holds_0 : decode cX5_holds 0 = .ok (.aload_n 0, 1) := by decide +kernel
theorem dX5_holds_1 : decode cX5_holds 1 = .ok (.getfield 42, 3) := by decide +kernel
theorem dX5_holds_4 : decode cX5_holds 4 = .ok (.getfield 184, 3) := by decide +kernel
theorem dX5_holds_7 : decode cX5_holds 7 = .ok (.iload_n 1, 1) := by decide +kernel
theorem dX5_holds_8 : decode cX5_holds 8 = .ok (.iaload, 1) := by decide +kernel
theorem dX5_holds_9 : decode cX5_holds 9 = .ok (.istore_n 2, 1) := by decide +kernel
theorem dX5_holds_10 : decode cX5_holds 10 = .ok (.iload_n 2, 1) := by decide +kernel
theorem dX5_holds_11 : decode cX5_holds 11 = .ok (.ifCond .lt 33, 3) := by decide +kernel
theorem dX5_holds_14 : decode cX5_holds 14 = .ok (.iload_n 2, 1) := by decide +kernel
theorem dX5_holds_15 : decode cX5_holds 15 = .ok (.iconst 5, 1) := by decide +kernel
theorem dX5_holds_16 : decode cX5_holds 16 = .ok (.if_icmp .ge 28, 3) := by decide +kernel
theorem dX5_holds_19 : decode cX5_holds 19 = .ok (.aload_n 0, 1) := by decide +kernel
theorem dX5_holds_20 : decode cX5_holds 20 = .ok (.getfield 35, 3) := by decide +kernel
theorem dX5_holds_23 : decode cX5_holds 23 = .ok (.getfield 122, 3) := by decide +kernel
theorem dX5_holds_26 : decode cX5_holds 26 = .ok (.iload_n 2, 1) := by decide +kernel
theorem dX5_holds_27 : decode cX5_holds 27 = .ok (.iaload, 1) := by decide +kernel
theorem dX5_holds_28 : decode cX5_holds 28 = .ok (.aload_n 0, 1) := by decide +kernel
theorem dX5_holds_29 : decode cX5_holds 29 = .ok (.getfield 42, 3) := by decide +kernel
theorem dX5_holds_32 : decode cX5_holds 32 = .ok (.getfield 181, 3) := by decide +kernel
theorem dX5_holds_35 : decode cX5_holds 35 = .ok (.iload_n 1, 1) := by decide +kernel
theorem dX5_holds_36 : decode cX5_holds 36 = .ok (.iaload, 1) := by decide +kernel
theorem dX5_holds_37 : decode cX5_holds 37 = .ok (.if_icmp .le 7, 3) := by decide +kernel
theorem dX5_holds_40 : decode cX5_holds 40 = .ok (.iconst 1, 1) := by decide +kernel
theorem dX5_holds_41 : decode cX5_holds 41 = .ok (.goto 4, 3) := by decide +kernel
theorem dX5_holds_44 : decode cX5_holds 44 = .ok (.iconst 0, 1) := by decide +kernel
theorem dX5_holds_45 : decode cX5_holds 45 = .ok (.ireturn, 1) := by decide +kernel
theorem dX5_tickUntilCycleEnds_0 : decode cX5_tickUntilCycleEnds 0 = .ok (.iconst 1, 1) := by decide +kernel
theorem dX5_tickUntilCycleEnds_1 : decode cX5_tickUntilCycleEnds 1 = .ok (.istore_n 2, 1) := by decide +kernel
theorem dX5_tickUntilCycleEnds_2 : decode cX5_tickUntilCycleEnds 2 = .ok (.iload_n 2, 1) := by decide +kernel
theorem dX5_tickUntilCycleEnds_3 : decode cX5_tickUntilCycleEnds 3 = .ok (.iload_n 1, 1) := by decide +kernel
theorem dX5_tickUntilCycleEnds_4 : decode cX5_tickUntilCycleEnds 4 = .ok (.if_icmp .gt 19, 3) := by decide +kernel
theorem dX5_tickUntilCycleEnds_7 : decode cX5_tickUntilCycleEnds 7 = .ok (.aload_n 0, 1) := by decide +kernel
theorem dX5_tickUntilCycleEnds_8 : decode cX5_tickUntilCycleEnds 8 = .ok (.invokevirtual 187, 3) := by decide +kernel
theorem dX5_tickUntilCycleEnds_11 : decode cX5_tickUntilCycleEnds 11 = .ok (.iconst 3, 1) := by decide +kernel
theorem dX5_tickUntilCycleEnds_12 : decode cX5_tickUntilCycleEnds 12 = .ok (.if_icmp .ne 5, 3) := by decide +kernel
theorem dX5_tickUntilCycleEnds_15 : decode cX5_tickUntilCycleEnds 15 = .ok (.iload_n 2, 1) := by decide +kernel
theorem dX5_tickUntilCycleEnds_16 : decode cX5_tickUntilCycleEnds 16 = .ok (.ireturn, 1) := by decide +kernel
theorem dX5_tickUntilCycleEnds_17 : decode cX5_tickUntilCycleEnds 17 = .ok (.iinc 2 1, 3) := by decide +kernel
theorem dX5_tickUntilCycleEnds_20 : decode cX5_tickUntilCycleEnds 20 = .ok (.goto (-18), 3) := by decide +kernel
theorem dX5_tickUntilCycleEnds_23 : decode cX5_tickUntilCycleEnds 23 = .ok (.iconst (-1), 1) := by decide +kernel
theorem dX5_tickUntilCycleEnds_24 : decode cX5_tickUntilCycleEnds 24 = .ok (.ireturn, 1) := by decide +kernel
theorem dX5_number_0 : decode cX5_number 0 = .ok (.iload_n 1, 1) := by decide +kernel
theorem dX5_number_1 : decode cX5_number 1 = .ok (.tableswitch 171 0 14 #[75, 80, 85, 90, 95, 100, 108, 116, 124, 132, 137, 142, 147, 155, 163], 75) := by decide +kernel
theorem dX5_number_76 : decode cX5_number 76 = .ok (.aload_n 0, 1) := by decide +kernel
theorem dX5_number_77 : decode cX5_number 77 = .ok (.getfield 9, 3) := by decide +kernel
theorem dX5_number_80 : decode cX5_number 80 = .ok (.ireturn, 1) := by decide +kernel
theorem dX5_number_81 : decode cX5_number 81 = .ok (.aload_n 0, 1) := by decide +kernel
theorem dX5_number_82 : decode cX5_number 82 = .ok (.getfield 53, 3) := by decide +kernel
theorem dX5_number_85 : decode cX5_number 85 = .ok (.ireturn, 1) := by decide +kernel
theorem dX5_number_86 : decode cX5_number 86 = .ok (.aload_n 0, 1) := by decide +kernel
theorem dX5_number_87 : decode cX5_number 87 = .ok (.getfield 56, 3) := by decide +kernel
theorem dX5_number_90 : decode cX5_number 90 = .ok (.ireturn, 1) := by decide +kernel
theorem dX5_number_91 : decode cX5_number 91 = .ok (.aload_n 0, 1) := by decide +kernel
theorem dX5_number_92 : decode cX5_number 92 = .ok (.getfield 15, 3) := by decide +kernel
theorem dX5_number_95 : decode cX5_number 95 = .ok (.ireturn, 1) := by decide +kernel
theorem dX5_number_96 : decode cX5_number 96 = .ok (.aload_n 0, 1) := by decide +kernel
theorem dX5_number_97 : decode cX5_number 97 = .ok (.getfield 18, 3) := by decide +kernel
theorem dX5_number_100 : decode cX5_number 100 = .ok (.ireturn, 1) := by decide +kernel
theorem dX5_number_101 : decode cX5_number 101 = .ok (.aload_n 0, 1) := by decide +kernel
theorem dX5_number_102 : decode cX5_number 102 = .ok (.getfield 28, 3) := by decide +kernel
theorem dX5_number_105 : decode cX5_number 105 = .ok (.getfield 129, 3) := by decide +kernel
theorem dX5_number_108 : decode cX5_number 108 = .ok (.ireturn, 1) := by decide +kernel
theorem dX5_number_109 : decode cX5_number 109 = .ok (.aload_n 0, 1) := by decide +kernel
theorem dX5_number_110 : decode cX5_number 110 = .ok (.getfield 28, 3) := by decide +kernel
theorem dX5_number_113 : decode cX5_number 113 = .ok (.getfield 190, 3) := by decide +kernel
theorem dX5_number_116 : decode cX5_number 116 = .ok (.ireturn, 1) := by decide +kernel
theorem dX5_number_117 : decode cX5_number 117 = .ok (.aload_n 0, 1) := by decide +kernel
theorem dX5_number_118 : decode cX5_number 118 = .ok (.getfield 28, 3) := by decide +kernel
theorem dX5_number_121 : decode cX5_number 121 = .ok (.getfield 193, 3) := by decide +kernel
theorem dX5_number_124 : decode cX5_number 124 = .ok (.ireturn, 1) := by decide +kernel
theorem dX5_number_125 : decode cX5_number 125 = .ok (.aload_n 0, 1) := by decide +kernel
theorem dX5_number_126 : decode cX5_number 126 = .ok (.getfield 42, 3) := by decide +kernel
theorem dX5_number_129 : decode cX5_number 129 = .ok (.getfield 171, 3) := by decide +kernel
theorem dX5_number_132 : decode cX5_number 132 = .ok (.ireturn, 1) := by decide +kernel
theorem dX5_number_133 : decode cX5_number 133 = .ok (.aload_n 0, 1) := by decide +kernel
theorem dX5_number_134 : decode cX5_number 134 = .ok (.getfield 59, 3) := by decide +kernel
theorem dX5_number_137 : decode cX5_number 137 = .ok (.ireturn, 1) := by decide +kernel
theorem dX5_number_138 : decode cX5_number 138 = .ok (.aload_n 0, 1) := by decide +kernel
theorem dX5_number_139 : decode cX5_number 139 = .ok (.getfield 62, 3) := by decide +kernel
theorem dX5_number_142 : decode cX5_number 142 = .ok (.ireturn, 1) := by decide +kernel
theorem dX5_number_143 : decode cX5_number 143 = .ok (.aload_n 0, 1) := by decide +kernel
theorem dX5_number_144 : decode cX5_number 144 = .ok (.getfield 65, 3) := by decide +kernel
theorem dX5_number_147 : decode cX5_number 147 = .ok (.ireturn, 1) := by decide +kernel
theorem dX5_number_148 : decode cX5_number 148 = .ok (.aload_n 0, 1) := by decide +kernel
theorem dX5_number_149 : decode cX5_number 149 = .ok (.getfield 28, 3) := by decide +kernel
theorem dX5_number_152 : decode cX5_number 152 = .ok (.getfield 196, 3) := by decide +kernel
theorem dX5_number_155 : decode cX5_number 155 = .ok (.ireturn, 1) := by decide +kernel
theorem dX5_number_156 : decode cX5_number 156 = .ok (.aload_n 0, 1) := by decide +kernel
theorem dX5_number_157 : decode cX5_number 157 = .ok (.getfield 28, 3) := by decide +kernel
theorem dX5_number_160 : decode cX5_number 160 = .ok (.getfield 199, 3) := by decide +kernel
theorem dX5_number_163 : decode cX5_number 163 = .ok (.ireturn, 1) := by decide +kernel
theorem dX5_number_164 : decode cX5_number 164 = .ok (.aload_n 0, 1) := by decide +kernel
theorem dX5_number_165 : decode cX5_number 165 = .ok (.getfield 28, 3) := by decide +kernel
theorem dX5_number_168 : decode cX5_number 168 = .ok (.getfield 202, 3) := by decide +kernel
theorem dX5_number_171 : decode cX5_number 171 = .ok (.ireturn, 1) := by decide +kernel
theorem dX5_number_172 : decode cX5_number 172 = .ok (.aload_n 0, 1) := by decide +kernel
theorem dX5_number_173 : decode cX5_number 173 = .ok (.getfield 28, 3) := by decide +kernel
theorem dX5_number_176 : decode cX5_number 176 = .ok (.getfield 204, 3) := by decide +kernel
theorem dX5_number_179 : decode cX5_number 179 = .ok (.ireturn, 1) := by decide +kernel
theorem dX5_cylinderNumber_0 : decode cX5_cylinderNumber 0 = .ok (.iload_n 2, 1) := by decide +kernel
theorem dX5_cylinderNumber_1 : decode cX5_cylinderNumber 1 = .ok (.tableswitch 105 0 6 #[43, 53, 63, 73, 83, 89, 95], 43) := by decide +kernel
theorem dX5_cylinderNumber_44 : decode cX5_cylinderNumber 44 = .ok (.aload_n 0, 1) := by decide +kernel
theorem dX5_cylinderNumber_45 : decode cX5_cylinderNumber 45 = .ok (.getfield 35, 3) := by decide +kernel
theorem dX5_cylinderNumber_48 : decode cX5_cylinderNumber 48 = .ok (.getfield 122, 3) := by decide +kernel
theorem dX5_cylinderNumber_51 : decode cX5_cylinderNumber 51 = .ok (.iload_n 1, 1) := by decide +kernel
theorem dX5_cylinderNumber_52 : decode cX5_cylinderNumber 52 = .ok (.iaload, 1) := by decide +kernel
theorem dX5_cylinderNumber_53 : decode cX5_cylinderNumber 53 = .ok (.ireturn, 1) := by decide +kernel
theorem dX5_cylinderNumber_54 : decode cX5_cylinderNumber 54 = .ok (.aload_n 0, 1) := by decide +kernel
theorem dX5_cylinderNumber_55 : decode cX5_cylinderNumber 55 = .ok (.getfield 35, 3) := by decide +kernel
theorem dX5_cylinderNumber_58 : decode cX5_cylinderNumber 58 = .ok (.getfield 147, 3) := by decide +kernel
theorem dX5_cylinderNumber_61 : decode cX5_cylinderNumber 61 = .ok (.iload_n 1, 1) := by decide +kernel
theorem dX5_cylinderNumber_62 : decode cX5_cylinderNumber 62 = .ok (.iaload, 1) := by decide +kernel
theorem dX5_cylinderNumber_63 : decode cX5_cylinderNumber 63 = .ok (.ireturn, 1) := by decide +kernel
theorem dX5_cylinderNumber_64 : decode cX5_cylinderNumber 64 = .ok (.aload_n 0, 1) := by decide +kernel
theorem dX5_cylinderNumber_65 : decode cX5_cylinderNumber 65 = .ok (.getfield 35, 3) := by decide +kernel
theorem dX5_cylinderNumber_68 : decode cX5_cylinderNumber 68 = .ok (.getfield 135, 3) := by decide +kernel
theorem dX5_cylinderNumber_71 : decode cX5_cylinderNumber 71 = .ok (.iload_n 1, 1) := by decide +kernel
theorem dX5_cylinderNumber_72 : decode cX5_cylinderNumber 72 = .ok (.iaload, 1) := by decide +kernel
theorem dX5_cylinderNumber_73 : decode cX5_cylinderNumber 73 = .ok (.ireturn, 1) := by decide +kernel
theorem dX5_cylinderNumber_74 : decode cX5_cylinderNumber 74 = .ok (.aload_n 0, 1) := by decide +kernel
theorem dX5_cylinderNumber_75 : decode cX5_cylinderNumber 75 = .ok (.getfield 35, 3) := by decide +kernel
theorem dX5_cylinderNumber_78 : decode cX5_cylinderNumber 78 = .ok (.getfield 165, 3) := by decide +kernel
theorem dX5_cylinderNumber_81 : decode cX5_cylinderNumber 81 = .ok (.iload_n 1, 1) := by decide +kernel
theorem dX5_cylinderNumber_82 : decode cX5_cylinderNumber 82 = .ok (.iaload, 1) := by decide +kernel
theorem dX5_cylinderNumber_83 : decode cX5_cylinderNumber 83 = .ok (.ireturn, 1) := by decide +kernel
theorem dX5_cylinderNumber_84 : decode cX5_cylinderNumber 84 = .ok (.aload_n 0, 1) := by decide +kernel
theorem dX5_cylinderNumber_85 : decode cX5_cylinderNumber 85 = .ok (.iload_n 1, 1) := by decide +kernel
theorem dX5_cylinderNumber_86 : decode cX5_cylinderNumber 86 = .ok (.invokevirtual 206, 3) := by decide +kernel
theorem dX5_cylinderNumber_89 : decode cX5_cylinderNumber 89 = .ok (.ireturn, 1) := by decide +kernel
theorem dX5_cylinderNumber_90 : decode cX5_cylinderNumber 90 = .ok (.aload_n 0, 1) := by decide +kernel
theorem dX5_cylinderNumber_91 : decode cX5_cylinderNumber 91 = .ok (.iload_n 1, 1) := by decide +kernel
theorem dX5_cylinderNumber_92 : decode cX5_cylinderNumber 92 = .ok (.invokevirtual 138, 3) := by decide +kernel
theorem dX5_cylinderNumber_95 : decode cX5_cylinderNumber 95 = .ok (.ireturn, 1) := by decide +kernel
theorem dX5_cylinderNumber_96 : decode cX5_cylinderNumber 96 = .ok (.aload_n 0, 1) := by decide +kernel
theorem dX5_cylinderNumber_97 : decode cX5_cylinderNumber 97 = .ok (.getfield 35, 3) := by decide +kernel
theorem dX5_cylinderNumber_100 : decode cX5_cylinderNumber 100 = .ok (.getfield 156, 3) := by decide +kernel
theorem dX5_cylinderNumber_103 : decode cX5_cylinderNumber 103 = .ok (.iload_n 1, 1) := by decide +kernel
theorem dX5_cylinderNumber_104 : decode cX5_cylinderNumber 104 = .ok (.iaload, 1) := by decide +kernel
theorem dX5_cylinderNumber_105 : decode cX5_cylinderNumber 105 = .ok (.ireturn, 1) := by decide +kernel
theorem dX5_cylinderNumber_106 : decode cX5_cylinderNumber 106 = .ok (.aload_n 0, 1) := by decide +kernel
theorem dX5_cylinderNumber_107 : decode cX5_cylinderNumber 107 = .ok (.getfield 35, 3) := by decide +kernel
theorem dX5_cylinderNumber_110 : decode cX5_cylinderNumber 110 = .ok (.getfield 162, 3) := by decide +kernel
theorem dX5_cylinderNumber_113 : decode cX5_cylinderNumber 113 = .ok (.iload_n 1, 1) := by decide +kernel
theorem dX5_cylinderNumber_114 : decode cX5_cylinderNumber 114 = .ok (.iaload, 1) := by decide +kernel
theorem dX5_cylinderNumber_115 : decode cX5_cylinderNumber 115 = .ok (.ireturn, 1) := by decide +kernel
theorem dX6_init_0 : decode cX6_init 0 = .ok (.aload_n 0, 1) := by decide +kernel
theorem dX6_init_1 : decode cX6_init 1 = .ok (.invokespecial 3, 3) := by decide +kernel
theorem dX6_init_4 : decode cX6_init 4 = .ok (.aload_n 0, 1) := by decide +kernel
theorem dX6_init_5 : decode cX6_init 5 = .ok (.bipush 100, 2) := by decide +kernel
theorem dX6_init_7 : decode cX6_init 7 = .ok (.newarray .int, 2) := by decide +kernel
theorem dX6_init_9 : decode cX6_init 9 = .ok (.putfield 9, 3) := by decide +kernel
theorem dX6_init_12 : decode cX6_init 12 = .ok (.aload_n 0, 1) := by decide +kernel
theorem dX6_init_13 : decode cX6_init 13 = .ok (.iconst 5, 1) := by decide +kernel
theorem dX6_init_14 : decode cX6_init 14 = .ok (.newarray .int, 2) := by decide +kernel
theorem dX6_init_16 : decode cX6_init 16 = .ok (.putfield 15, 3) := by decide +kernel
theorem dX6_init_19 : decode cX6_init 19 = .ok (.return_, 1) := by decide +kernel
theorem dX7_init_0 : decode cX7_init 0 = .ok (.aload_n 0, 1) := by decide +kernel
theorem dX7_init_1 : decode cX7_init 1 = .ok (.invokespecial 1, 3) := by decide +kernel
theorem dX7_init_4 : decode cX7_init 4 = .ok (.aload_n 0, 1) := by decide +kernel
theorem dX7_init_5 : decode cX7_init 5 = .ok (.new 7, 3) := by decide +kernel
theorem dX7_init_8 : decode cX7_init 8 = .ok (.dup, 1) := by decide +kernel
theorem dX7_init_9 : decode cX7_init 9 = .ok (.invokespecial 9, 3) := by decide +kernel
theorem dX7_init_12 : decode cX7_init 12 = .ok (.putfield 10, 3) := by decide +kernel
theorem dX7_init_15 : decode cX7_init 15 = .ok (.aload_n 0, 1) := by decide +kernel
theorem dX7_init_16 : decode cX7_init 16 = .ok (.new 16, 3) := by decide +kernel
theorem dX7_init_19 : decode cX7_init 19 = .ok (.dup, 1) := by decide +kernel
theorem dX7_init_20 : decode cX7_init 20 = .ok (.invokespecial 18, 3) := by decide +kernel
theorem dX7_init_23 : decode cX7_init 23 = .ok (.putfield 19, 3) := by decide +kernel
theorem dX7_init_26 : decode cX7_init 26 = .ok (.aload_n 0, 1) := by decide +kernel
theorem dX7_init_27 : decode cX7_init 27 = .ok (.new 23, 3) := by decide +kernel
theorem dX7_init_30 : decode cX7_init 30 = .ok (.dup, 1) := by decide +kernel
theorem dX7_init_31 : decode cX7_init 31 = .ok (.invokespecial 25, 3) := by decide +kernel
theorem dX7_init_34 : decode cX7_init 34 = .ok (.putfield 26, 3) := by decide +kernel
theorem dX7_init_37 : decode cX7_init 37 = .ok (.aload_n 0, 1) := by decide +kernel
theorem dX7_init_38 : decode cX7_init 38 = .ok (.new 7, 3) := by decide +kernel
theorem dX7_init_41 : decode cX7_init 41 = .ok (.dup, 1) := by decide +kernel
theorem dX7_init_42 : decode cX7_init 42 = .ok (.invokespecial 9, 3) := by decide +kernel
theorem dX7_init_45 : decode cX7_init 45 = .ok (.putfield 30, 3) := by decide +kernel
theorem dX7_init_48 : decode cX7_init 48 = .ok (.aload_n 0, 1) := by decide +kernel
theorem dX7_init_49 : decode cX7_init 49 = .ok (.new 7, 3) := by decide +kernel
theorem dX7_init_52 : decode cX7_init 52 = .ok (.dup, 1) := by decide +kernel
theorem dX7_init_53 : decode cX7_init 53 = .ok (.invokespecial 9, 3) := by decide +kernel
theorem dX7_init_56 : decode cX7_init 56 = .ok (.putfield 33, 3) := by decide +kernel
theorem dX7_init_59 : decode cX7_init 59 = .ok (.return_, 1) := by decide +kernel
theorem dX7_setCam_0 : decode cX7_setCam 0 = .ok (.iload_n 1, 1) := by decide +kernel
theorem dX7_setCam_1 : decode cX7_setCam 1 = .ok (.invokestatic 36, 3) := by decide +kernel
theorem dX7_setCam_4 : decode cX7_setCam 4 = .ok (.aload_n 0, 1) := by decide +kernel
theorem dX7_setCam_5 : decode cX7_setCam 5 = .ok (.iload_n 2, 1) := by decide +kernel
theorem dX7_setCam_6 : decode cX7_setCam 6 = .ok (.invokevirtual 40, 3) := by decide +kernel
theorem dX7_setCam_9 : decode cX7_setCam 9 = .ok (.aload_n 0, 1) := by decide +kernel
theorem dX7_setCam_10 : decode cX7_setCam 10 = .ok (.getfield 19, 3) := by decide +kernel
theorem dX7_setCam_13 : decode cX7_setCam 13 = .ok (.aload_n 0, 1) := by decide +kernel
theorem dX7_setCam_14 : decode cX7_setCam 14 = .ok (.getfield 10, 3) := by decide +kernel
theorem dX7_setCam_17 : decode cX7_setCam 17 = .ok (.invokevirtual 43, 3) := by decide +kernel
theorem dX7_setCam_20 : decode cX7_setCam 20 = .ok (.aload_n 0, 1) := by decide +kernel
theorem dX7_setCam_21 : decode cX7_setCam 21 = .ok (.getfield 10, 3) := by decide +kernel
theorem dX7_setCam_24 : decode cX7_setCam 24 = .ok (.iload_n 1, 1) := by decide +kernel
theorem dX7_setCam_25 : decode cX7_setCam 25 = .ok (.iload_n 2, 1) := by decide +kernel
theorem dX7_setCam_26 : decode cX7_setCam 26 = .ok (.iload_n 3, 1) := by decide +kernel
theorem dX7_setCam_27 : decode cX7_setCam 27 = .ok (.invokevirtual 47, 3) := by decide +kernel
theorem dX7_setCam_30 : decode cX7_setCam 30 = .ok (.aload_n 0, 1) := by decide +kernel
theorem dX7_setCam_31 : decode cX7_setCam 31 = .ok (.getfield 10, 3) := by decide +kernel
theorem dX7_setCam_34 : decode cX7_setCam 34 = .ok (.iload_n 1, 1) := by decide +kernel
theorem dX7_setCam_35 : decode cX7_setCam 35 = .ok (.invokevirtual 51, 3) := by decide +kernel
theorem dX7_setCam_38 : decode cX7_setCam 38 = .ok (.ireturn, 1) := by decide +kernel
theorem dX7_setPawl_0 : decode cX7_setPawl 0 = .ok (.iload_n 1, 1) := by decide +kernel
theorem dX7_setPawl_1 : decode cX7_setPawl 1 = .ok (.iconst 1, 1) := by decide +kernel
theorem dX7_setPawl_2 : decode cX7_setPawl 2 = .ok (.bipush 20, 2) := by decide +kernel
theorem dX7_setPawl_4 : decode cX7_setPawl 4 = .ok (.invokestatic 55, 3) := by decide +kernel
theorem dX7_setPawl_7 : decode cX7_setPawl 7 = .ok (.ifCond .eq 14, 3) := by decide +kernel
theorem dX7_setPawl_10 : decode cX7_setPawl 10 = .ok (.iload_n 2, 1) := by decide +kernel
theorem dX7_setPawl_11 : decode cX7_setPawl 11 = .ok (.iconst 0, 1) := by decide +kernel
theorem dX7_setPawl_12 : decode cX7_setPawl 12 = .ok (.sipush 5000, 3) := by decide +kernel
theorem dX7_setPawl_15 : decode cX7_setPawl 15 = .ok (.invokestatic 55, 3) := by decide +kernel
theorem dX7_setPawl_18 : decode cX7_setPawl 18 = .ok (.ifCond .ne 13, 3) := by decide +kernel
theorem dX7_setPawl_21 : decode cX7_setPawl 21 = .ok (.new 59, 3) := by decide +kernel
theorem dX7_setPawl_24 : decode cX7_setPawl 24 = .ok (.dup, 1) := by decide +kernel
theorem dX7_setPawl_25 : decode cX7_setPawl 25 = .ok (.ldc 61, 2) := by decide +kernel
theorem dX7_setPawl_27 : decode cX7_setPawl 27 = .ok (.invokespecial 63, 3) := by decide +kernel
theorem dX7_setPawl_30 : decode cX7_setPawl 30 = .ok (.athrow, 1) := by decide +kernel
theorem dX7_setPawl_31 : decode cX7_setPawl 31 = .ok (.aload_n 0, 1) := by decide +kernel
theorem dX7_setPawl_32 : decode cX7_setPawl 32 = .ok (.getfield 19, 3) := by decide +kernel
theorem dX7_setPawl_35 : decode cX7_setPawl 35 = .ok (.aload_n 0, 1) := by decide +kernel
theorem dX7_setPawl_36 : decode cX7_setPawl 36 = .ok (.getfield 10, 3) := by decide +kernel
theorem dX7_setPawl_39 : decode cX7_setPawl 39 = .ok (.invokevirtual 43, 3) := by decide +kernel
theorem dX7_setPawl_42 : decode cX7_setPawl 42 = .ok (.aload_n 0, 1) := by decide +kernel
theorem dX7_setPawl_43 : decode cX7_setPawl 43 = .ok (.getfield 10, 3) := by decide +kernel
theorem dX7_setPawl_46 : decode cX7_setPawl 46 = .ok (.getfield 66, 3) := by decide +kernel
theorem dX7_setPawl_49 : decode cX7_setPawl 49 = .ok (.istore_n 3, 1) := by decide +kernel
theorem dX7_setPawl_50 : decode cX7_setPawl 50 = .ok (.aload_n 0, 1) := by decide +kernel
theorem dX7_setPawl_51 : decode cX7_setPawl 51 = .ok (.getfield 10, 3) := by decide +kernel
theorem dX7_setPawl_54 : decode cX7_setPawl 54 = .ok (.iload_n 1, 1) := by decide +kernel
theorem dX7_setPawl_55 : decode cX7_setPawl 55 = .ok (.putfield 66, 3) := by decide +kernel
theorem dX7_setPawl_58 : decode cX7_setPawl 58 = .ok (.aload_n 0, 1) := by decide +kernel
theorem dX7_setPawl_59 : decode cX7_setPawl 59 = .ok (.getfield 10, 3) := by decide +kernel
theorem dX7_setPawl_62 : decode cX7_setPawl 62 = .ok (.iload_n 2, 1) := by decide +kernel
theorem dX7_setPawl_63 : decode cX7_setPawl 63 = .ok (.putfield 70, 3) := by decide +kernel
theorem dX7_setPawl_66 : decode cX7_setPawl 66 = .ok (.iload_n 3, 1) := by decide +kernel
theorem dX7_setPawl_67 : decode cX7_setPawl 67 = .ok (.ireturn, 1) := by decide +kernel
theorem dX7_setCylinder_0 : decode cX7_setCylinder 0 = .ok (.iload_n 1, 1) := by decide +kernel
theorem dX7_setCylinder_1 : decode cX7_setCylinder 1 = .ok (.invokestatic 36, 3) := by decide +kernel
theorem dX7_setCylinder_4 : decode cX7_setCylinder 4 = .ok (.iload_n 2, 1) := by decide +kernel
theorem dX7_setCylinder_5 : decode cX7_setCylinder 5 = .ok (.iconst 1, 1) := by decide +kernel
theorem dX7_setCylinder_6 : decode cX7_setCylinder 6 = .ok (.bipush 9, 2) := by decide +kernel
theorem dX7_setCylinder_8 : decode cX7_setCylinder 8 = .ok (.invokestatic 55, 3) := by decide +kernel
theorem dX7_setCylinder_11 : decode cX7_setCylinder 11 = .ok (.ifCond .eq 24, 3) := by decide +kernel
theorem dX7_setCylinder_14 : decode cX7_setCylinder 14 = .ok (.iload_n 3, 1) := by decide +kernel
theorem dX7_setCylinder_15 : decode cX7_setCylinder 15 = .ok (.iconst 1, 1) := by decide +kernel
theorem dX7_setCylinder_16 : decode cX7_setCylinder 16 = .ok (.bipush 50, 2) := by decide +kernel
theorem dX7_setCylinder_18 : decode cX7_setCylinder 18 = .ok (.invokestatic 55, 3) := by decide +kernel
theorem dX7_setCylinder_21 : decode cX7_setCylinder 21 = .ok (.ifCond .eq 14, 3) := by decide +kernel
theorem dX7_setCylinder_24 : decode cX7_setCylinder 24 = .ok (.iload 4, 2) := by decide +kernel
theorem dX7_setCylinder_26 : decode cX7_setCylinder 26 = .ok (.iconst 0, 1) := by decide +kernel
theorem dX7_setCylinder_27 : decode cX7_setCylinder 27 = .ok (.bipush 20, 2) := by decide +kernel
theorem dX7_setCylinder_29 : decode cX7_setCylinder 29 = .ok (.invokestatic 55, 3) := by decide +kernel
theorem dX7_setCylinder_32 : decode cX7_setCylinder 32 = .ok (.ifCond .ne 13, 3) := by decide +kernel
theorem dX7_setCylinder_35 : decode cX7_setCylinder 35 = .ok (.new 59, 3) := by decide +kernel
theorem dX7_setCylinder_38 : decode cX7_setCylinder 38 = .ok (.dup, 1) := by decide +kernel
theorem dX7_setCylinder_39 : decode cX7_setCylinder 39 = .ok (.ldc 73, 2) := by decide +kernel
theorem dX7_setCylinder_41 : decode cX7_setCylinder 41 = .ok (.invokespecial 63, 3) := by decide +kernel
theorem dX7_setCylinder_44 : decode cX7_setCylinder 44 = .ok (.athrow, 1) := by decide +kernel
theorem dX7_setCylinder_45 : decode cX7_setCylinder 45 = .ok (.aload_n 0, 1) := by decide +kernel
theorem dX7_setCylinder_46 : decode cX7_setCylinder 46 = .ok (.getfield 19, 3) := by decide +kernel
theorem dX7_setCylinder_49 : decode cX7_setCylinder 49 = .ok (.aload_n 0, 1) := by decide +kernel
theorem dX7_setCylinder_50 : decode cX7_setCylinder 50 = .ok (.getfield 10, 3) := by decide +kernel
theorem dX7_setCylinder_53 : decode cX7_setCylinder 53 = .ok (.invokevirtual 43, 3) := by decide +kernel
theorem dX7_setCylinder_56 : decode cX7_setCylinder 56 = .ok (.aload_n 0, 1) := by decide +kernel
theorem dX7_setCylinder_57 : decode cX7_setCylinder 57 = .ok (.getfield 10, 3) := by decide +kernel
theorem dX7_setCylinder_60 : decode cX7_setCylinder 60 = .ok (.getfield 75, 3) := by decide +kernel
theorem dX7_setCylinder_63 : decode cX7_setCylinder 63 = .ok (.getfield 79, 3) := by decide +kernel
theorem dX7_setCylinder_66 : decode cX7_setCylinder 66 = .ok (.iload_n 1, 1) := by decide +kernel
theorem dX7_setCylinder_67 : decode cX7_setCylinder 67 = .ok (.iload_n 2, 1) := by decide +kernel
theorem dX7_setCylinder_68 : decode cX7_setCylinder 68 = .ok (.iastore, 1) := by decide +kernel
theorem dX7_setCylinder_69 : decode cX7_setCylinder 69 = .ok (.aload_n 0, 1) := by decide +kernel
theorem dX7_setCylinder_70 : decode cX7_setCylinder 70 = .ok (.getfield 10, 3) := by decide +kernel
theorem dX7_setCylinder_73 : decode cX7_setCylinder 73 = .ok (.getfield 75, 3) := by decide +kernel
theorem dX7_setCylinder_76 : decode cX7_setCylinder 76 = .ok (.getfield 85, 3) := by decide +kernel
theorem dX7_setCylinder_79 : decode cX7_setCylinder 79 = .ok (.iload_n 1, 1) := by decide +kernel
theorem dX7_setCylinder_80 : decode cX7_setCylinder 80 = .ok (.iload_n 3, 1) := by decide +kernel
theorem dX7_setCylinder_81 : decode cX7_setCylinder 81 = .ok (.iastore, 1) := by decide +kernel
theorem dX7_setCylinder_82 : decode cX7_setCylinder 82 = .ok (.aload_n 0, 1) := by decide +kernel
theorem dX7_setCylinder_83 : decode cX7_setCylinder 83 = .ok (.getfield 10, 3) := by decide +kernel
theorem dX7_setCylinder_86 : decode cX7_setCylinder 86 = .ok (.getfield 75, 3) := by decide +kernel
theorem dX7_setCylinder_89 : decode cX7_setCylinder 89 = .ok (.getfield 88, 3) := by decide +kernel
theorem dX7_setCylinder_92 : decode cX7_setCylinder 92 = .ok (.iload_n 1, 1) := by decide +kernel
theorem dX7_setCylinder_93 : decode cX7_setCylinder 93 = .ok (.iload 4, 2) := by decide +kernel
theorem dX7_setCylinder_95 : decode cX7_setCylinder 95 = .ok (.iastore, 1) := by decide +kernel
theorem dX7_setCylinder_96 : decode cX7_setCylinder 96 = .ok (.aload_n 0, 1) := by decide +kernel
theorem dX7_setCylinder_97 : decode cX7_setCylinder 97 = .ok (.getfield 10, 3) := by decide +kernel
theorem dX7_setCylinder_100 : decode cX7_setCylinder 100 = .ok (.getfield 75, 3) := by decide +kernel
theorem dX7_setCylinder_103 : decode cX7_setCylinder 103 = .ok (.getfield 91, 3) := by decide +kernel
theorem dX7_setCylinder_106 : decode cX7_setCylinder 106 = .ok (.iload_n 1, 1) := by decide +kernel
theorem dX7_setCylinder_107 : decode cX7_setCylinder 107 = .ok (.iaload, 1) := by decide +kernel
theorem dX7_setCylinder_108 : decode cX7_setCylinder 108 = .ok (.ireturn, 1) := by decide +kernel
theorem dX7_setAir_0 : decode cX7_setAir 0 = .ok (.iload_n 1, 1) := by decide +kernel
theorem dX7_setAir_1 : decode cX7_setAir 1 = .ok (.bipush 100, 2) := by decide +kernel
theorem dX7_setAir_3 : decode cX7_setAir 3 = .ok (.sipush 9999, 3) := by decide +kernel
theorem dX7_setAir_6 : decode cX7_setAir 6 = .ok (.invokestatic 55, 3) := by decide +kernel
theorem dX7_setAir_9 : decode cX7_setAir 9 = .ok (.ifCond .eq 14, 3) := by decide +kernel
theorem dX7_setAir_12 : decode cX7_setAir 12 = .ok (.iload_n 2, 1) := by decide +kernel
theorem dX7_setAir_13 : decode cX7_setAir 13 = .ok (.iconst 0, 1) := by decide +kernel
theorem dX7_setAir_14 : decode cX7_setAir 14 = .ok (.sipush 500, 3) := by decide +kernel
theorem dX7_setAir_17 : decode cX7_setAir 17 = .ok (.invokestatic 55, 3) := by decide +kernel
theorem dX7_setAir_20 : decode cX7_setAir 20 = .ok (.ifCond .ne 13, 3) := by decide +kernel
theorem dX7_setAir_23 : decode cX7_setAir 23 = .ok (.new 59, 3) := by decide +kernel
theorem dX7_setAir_26 : decode cX7_setAir 26 = .ok (.dup, 1) := by decide +kernel
theorem dX7_setAir_27 : decode cX7_setAir 27 = .ok (.ldc 94, 2) := by decide +kernel
theorem dX7_setAir_29 : decode cX7_setAir 29 = .ok (.invokespecial 63, 3) := by decide +kernel
theorem dX7_setAir_32 : decode cX7_setAir 32 = .ok (.athrow, 1) := by decide +kernel
theorem dX7_setAir_33 : decode cX7_setAir 33 = .ok (.aload_n 0, 1) := by decide +kernel
theorem dX7_setAir_34 : decode cX7_setAir 34 = .ok (.getfield 19, 3) := by decide +kernel
theorem dX7_setAir_37 : decode cX7_setAir 37 = .ok (.aload_n 0, 1) := by decide +kernel
theorem dX7_setAir_38 : decode cX7_setAir 38 = .ok (.getfield 10, 3) := by decide +kernel
theorem dX7_setAir_41 : decode cX7_setAir 41 = .ok (.invokevirtual 43, 3) := by decide +kernel
theorem dX7_setAir_44 : decode cX7_setAir 44 = .ok (.aload_n 0, 1) := by decide +kernel
theorem dX7_setAir_45 : decode cX7_setAir 45 = .ok (.getfield 10, 3) := by decide +kernel
theorem dX7_setAir_48 : decode cX7_setAir 48 = .ok (.getfield 96, 3) := by decide +kernel
theorem dX7_setAir_51 : decode cX7_setAir 51 = .ok (.iload_n 1, 1) := by decide +kernel
theorem dX7_setAir_52 : decode cX7_setAir 52 = .ok (.putfield 100, 3) := by decide +kernel
theorem dX7_setAir_55 : decode cX7_setAir 55 = .ok (.aload_n 0, 1) := by decide +kernel
theorem dX7_setAir_56 : decode cX7_setAir 56 = .ok (.getfield 10, 3) := by decide +kernel
theorem dX7_setAir_59 : decode cX7_setAir 59 = .ok (.getfield 96, 3) := by decide +kernel
theorem dX7_setAir_62 : decode cX7_setAir 62 = .ok (.iload_n 2, 1) := by decide +kernel
theorem dX7_setAir_63 : decode cX7_setAir 63 = .ok (.putfield 105, 3) := by decide +kernel
theorem dX7_setAir_66 : decode cX7_setAir 66 = .ok (.aload_n 0, 1) := by decide +kernel
theorem dX7_setAir_67 : decode cX7_setAir 67 = .ok (.getfield 10, 3) := by decide +kernel
theorem dX7_setAir_70 : decode cX7_setAir 70 = .ok (.getfield 96, 3) := by decide +kernel
theorem dX7_setAir_73 : decode cX7_setAir 73 = .ok (.invokevirtual 108, 3) := by decide +kernel
theorem dX7_setAir_76 : decode cX7_setAir 76 = .ok (.aload_n 0, 1) := by decide +kernel
theorem dX7_setAir_77 : decode cX7_setAir 77 = .ok (.getfield 10, 3) := by decide +kernel
theorem dX7_setAir_80 : decode cX7_setAir 80 = .ok (.getfield 96, 3) := by decide +kernel
theorem dX7_setAir_83 : decode cX7_setAir 83 = .ok (.getfield 111, 3) := by decide +kernel
theorem dX7_setAir_86 : decode cX7_setAir 86 = .ok (.ireturn, 1) := by decide +kernel
theorem dX7_addGuard_0 : decode cX7_addGuard 0 = .ok (.iload_n 1, 1) := by decide +kernel
theorem dX7_addGuard_1 : decode cX7_addGuard 1 = .ok (.invokestatic 36, 3) := by decide +kernel
theorem dX7_addGuard_4 : decode cX7_addGuard 4 = .ok (.iload_n 2, 1) := by decide +kernel
theorem dX7_addGuard_5 : decode cX7_addGuard 5 = .ok (.invokestatic 36, 3) := by decide +kernel
theorem dX7_addGuard_8 : decode cX7_addGuard 8 = .ok (.iload_n 1, 1) := by decide +kernel
theorem dX7_addGuard_9 : decode cX7_addGuard 9 = .ok (.iload_n 2, 1) := by decide +kernel
theorem dX7_addGuard_10 : decode cX7_addGuard 10 = .ok (.if_icmp .eq 13, 3) := by decide +kernel
theorem dX7_addGuard_13 : decode cX7_addGuard 13 = .ok (.iload_n 3, 1) := by decide +kernel
theorem dX7_addGuard_14 : decode cX7_addGuard 14 = .ok (.iconst 1, 1) := by decide +kernel
theorem dX7_addGuard_15 : decode cX7_addGuard 15 = .ok (.bipush 99, 2) := by decide +kernel
theorem dX7_addGuard_17 : decode cX7_addGuard 17 = .ok (.invokestatic 55, 3) := by decide +kernel
theorem dX7_addGuard_20 : decode cX7_addGuard 20 = .ok (.ifCond .ne 13, 3) := by decide +kernel
theorem dX7_addGuard_23 : decode cX7_addGuard 23 = .ok (.new 59, 3) := by decide +kernel
theorem dX7_addGuard_26 : decode cX7_addGuard 26 = .ok (.dup, 1) := by decide +kernel
theorem dX7_addGuard_27 : decode cX7_addGuard 27 = .ok (.ldc 114, 2) := by decide +kernel
theorem dX7_addGuard_29 : decode cX7_addGuard 29 = .ok (.invokespecial 63, 3) := by decide +kernel
theorem dX7_addGuard_32 : decode cX7_addGuard 32 = .ok (.athrow, 1) := by decide +kernel
theorem dX7_addGuard_33 : decode cX7_addGuard 33 = .ok (.aload_n 0, 1) := by decide +kernel
theorem dX7_addGuard_34 : decode cX7_addGuard 34 = .ok (.getfield 10, 3) := by decide +kernel
theorem dX7_addGuard_37 : decode cX7_addGuard 37 = .ok (.getfield 116, 3) := by decide +kernel
theorem dX7_addGuard_40 : decode cX7_addGuard 40 = .ok (.getfield 120, 3) := by decide +kernel
theorem dX7_addGuard_43 : decode cX7_addGuard 43 = .ok (.iconst 4, 1) := by decide +kernel
theorem dX7_addGuard_44 : decode cX7_addGuard 44 = .ok (.if_icmp .lt 13, 3) := by decide +kernel
theorem dX7_addGuard_47 : decode cX7_addGuard 47 = .ok (.new 125, 3) := by decide +kernel
theorem dX7_addGuard_50 : decode cX7_addGuard 50 = .ok (.dup, 1) := by decide +kernel
theorem dX7_addGuard_51 : decode cX7_addGuard 51 = .ok (.ldc 127, 2) := by decide +kernel
theorem dX7_addGuard_53 : decode cX7_addGuard 53 = .ok (.invokespecial 129, 3) := by decide +kernel
theorem dX7_addGuard_56 : decode cX7_addGuard 56 = .ok (.athrow, 1) := by decide +kernel
theorem dX7_addGuard_57 : decode cX7_addGuard 57 = .ok (.aload_n 0, 1) := by decide +kernel
theorem dX7_addGuard_58 : decode cX7_addGuard 58 = .ok (.getfield 19, 3) := by decide +kernel
theorem dX7_addGuard_61 : decode cX7_addGuard 61 = .ok (.aload_n 0, 1) := by decide +kernel
theorem dX7_addGuard_62 : decode cX7_addGuard 62 = .ok (.getfield 10, 3) := by decide +kernel
theorem dX7_addGuard_65 : decode cX7_addGuard 65 = .ok (.invokevirtual 43, 3) := by decide +kernel
theorem dX7_addGuard_68 : decode cX7_addGuard 68 = .ok (.aload_n 0, 1) := by decide +kernel
theorem dX7_addGuard_69 : decode cX7_addGuard 69 = .ok (.getfield 10, 3) := by decide +kernel
theorem dX7_addGuard_72 : decode cX7_addGuard 72 = .ok (.getfield 116, 3) := by decide +kernel
theorem dX7_addGuard_75 : decode cX7_addGuard 75 = .ok (.iload_n 1, 1) := by decide +kernel
theorem dX7_addGuard_76 : decode cX7_addGuard 76 = .ok (.iload_n 2, 1) := by decide +kernel
theorem dX7_addGuard_77 : decode cX7_addGuard 77 = .ok (.iload_n 3, 1) := by decide +kernel
theorem dX7_addGuard_78 : decode cX7_addGuard 78 = .ok (.invokevirtual 130, 3) := by decide +kernel
theorem dX7_addGuard_81 : decode cX7_addGuard 81 = .ok (.ireturn, 1) := by decide +kernel
theorem dX7_removeGuard_0 : decode cX7_removeGuard 0 = .ok (.aload_n 0, 1) := by decide +kernel
theorem dX7_removeGuard_1 : decode cX7_removeGuard 1 = .ok (.iload_n 1, 1) := by decide +kernel
theorem dX7_removeGuard_2 : decode cX7_removeGuard 2 = .ok (.invokevirtual 134, 3) := by decide +kernel
theorem dX7_removeGuard_5 : decode cX7_removeGuard 5 = .ok (.aload_n 0, 1) := by decide +kernel
theorem dX7_removeGuard_6 : decode cX7_removeGuard 6 = .ok (.getfield 19, 3) := by decide +kernel
theorem dX7_removeGuard_9 : decode cX7_removeGuard 9 = .ok (.aload_n 0, 1) := by decide +kernel
theorem dX7_removeGuard_10 : decode cX7_removeGuard 10 = .ok (.getfield 10, 3) := by decide +kernel
theorem dX7_removeGuard_13 : decode cX7_removeGuard 13 = .ok (.invokevirtual 43, 3) := by decide +kernel
theorem dX7_removeGuard_16 : decode cX7_removeGuard 16 = .ok (.aload_n 0, 1) := by decide +kernel
theorem dX7_removeGuard_17 : decode cX7_removeGuard 17 = .ok (.getfield 10, 3) := by decide +kernel
theorem dX7_removeGuard_20 : decode cX7_removeGuard 20 = .ok (.getfield 116, 3) := by decide +kernel
theorem dX7_removeGuard_23 : decode cX7_removeGuard 23 = .ok (.iload_n 1, 1) := by decide +kernel
theorem dX7_removeGuard_24 : decode cX7_removeGuard 24 = .ok (.invokevirtual 137, 3) := by decide +kernel
theorem dX7_removeGuard_27 : decode cX7_removeGuard 27 = .ok (.aload_n 0, 1) := by decide +kernel
theorem dX7_removeGuard_28 : decode cX7_removeGuard 28 = .ok (.getfield 10, 3) := by decide +kernel
theorem dX7_removeGuard_31 : decode cX7_removeGuard 31 = .ok (.getfield 116, 3) := by decide +kernel
theorem dX7_removeGuard_34 : decode cX7_removeGuard 34 = .ok (.getfield 120, 3) := by decide +kernel
theorem dX7_removeGuard_37 : decode cX7_removeGuard 37 = .ok (.ireturn, 1) := by decide +kernel
theorem dX7_turn_0 : decode cX7_turn 0 = .ok (.aload_n 0, 1) := by decide +kernel
theorem dX7_turn_1 : decode cX7_turn 1 = .ok (.iload_n 1, 1) := by decide +kernel
theorem dX7_turn_2 : decode cX7_turn 2 = .ok (.invokevirtual 40, 3) := by decide +kernel
theorem dX7_turn_5 : decode cX7_turn 5 = .ok (.aload_n 0, 1) := by decide +kernel
theorem dX7_turn_6 : decode cX7_turn 6 = .ok (.getfield 19, 3) := by decide +kernel
theorem dX7_turn_9 : decode cX7_turn 9 = .ok (.aload_n 0, 1) := by decide +kernel
theorem dX7_turn_10 : decode cX7_turn 10 = .ok (.getfield 10, 3) := by decide +kernel
theorem dX7_turn_13 : decode cX7_turn 13 = .ok (.invokevirtual 43, 3) := by decide +kernel
theorem dX7_turn_16 : decode cX7_turn 16 = .ok (.aload_n 0, 1) := by decide +kernel
theorem dX7_turn_17 : decode cX7_turn 17 = .ok (.getfield 10, 3) := by decide +kernel
theorem dX7_turn_20 : decode cX7_turn 20 = .ok (.getfield 140, 3) := by decide +kernel
theorem dX7_turn_23 : decode cX7_turn 23 = .ok (.istore_n 2, 1) := by decide +kernel
theorem dX7_turn_24 : decode cX7_turn 24 = .ok (.aload_n 0, 1) := by decide +kernel
theorem dX7_turn_25 : decode cX7_turn 25 = .ok (.getfield 10, 3) := by decide +kernel
theorem dX7_turn_28 : decode cX7_turn 28 = .ok (.iload_n 1, 1) := by decide +kernel
theorem dX7_turn_29 : decode cX7_turn 29 = .ok (.invokevirtual 143, 3) := by decide +kernel
theorem dX7_turn_32 : decode cX7_turn 32 = .ok (.iload_n 2, 1) := by decide +kernel
theorem dX7_turn_33 : decode cX7_turn 33 = .ok (.ireturn, 1) := by decide +kernel
theorem dX7_run_0 : decode cX7_run 0 = .ok (.iload_n 1, 1) := by decide +kernel
theorem dX7_run_1 : decode cX7_run 1 = .ok (.iconst 1, 1) := by decide +kernel
theorem dX7_run_2 : decode cX7_run 2 = .ok (.sipush 500, 3) := by decide +kernel
theorem dX7_run_5 : decode cX7_run 5 = .ok (.invokestatic 55, 3) := by decide +kernel
theorem dX7_run_8 : decode cX7_run 8 = .ok (.ifCond .ne 13, 3) := by decide +kernel
theorem dX7_run_11 : decode cX7_run 11 = .ok (.new 59, 3) := by decide +kernel
theorem dX7_run_14 : decode cX7_run 14 = .ok (.dup, 1) := by decide +kernel
theorem dX7_run_15 : decode cX7_run 15 = .ok (.ldc 146, 2) := by decide +kernel
theorem dX7_run_17 : decode cX7_run 17 = .ok (.invokespecial 63, 3) := by decide +kernel
theorem dX7_run_20 : decode cX7_run 20 = .ok (.athrow, 1) := by decide +kernel
theorem dX7_run_21 : decode cX7_run 21 = .ok (.aload_n 0, 1) := by decide +kernel
theorem dX7_run_22 : decode cX7_run 22 = .ok (.getfield 10, 3) := by decide +kernel
theorem dX7_run_25 : decode cX7_run 25 = .ok (.getfield 148, 3) := by decide +kernel
theorem dX7_run_28 : decode cX7_run 28 = .ok (.iload_n 1, 1) := by decide +kernel
theorem dX7_run_29 : decode cX7_run 29 = .ok (.iadd, 1) := by decide +kernel
theorem dX7_run_30 : decode cX7_run 30 = .ok (.ldc 151, 2) := by decide +kernel
theorem dX7_run_32 : decode cX7_run 32 = .ok (.if_icmp .le 13, 3) := by decide +kernel
theorem dX7_run_35 : decode cX7_run 35 = .ok (.new 125, 3) := by decide +kernel
theorem dX7_run_38 : decode cX7_run 38 = .ok (.dup, 1) := by decide +kernel
theorem dX7_run_39 : decode cX7_run 39 = .ok (.ldc 152, 2) := by decide +kernel
theorem dX7_run_41 : decode cX7_run 41 = .ok (.invokespecial 129, 3) := by decide +kernel
theorem dX7_run_44 : decode cX7_run 44 = .ok (.athrow, 1) := by decide +kernel
theorem dX7_run_45 : decode cX7_run 45 = .ok (.aload_n 0, 1) := by decide +kernel
theorem dX7_run_46 : decode cX7_run 46 = .ok (.getfield 19, 3) := by decide +kernel
theorem dX7_run_49 : decode cX7_run 49 = .ok (.aload_n 0, 1) := by decide +kernel
theorem dX7_run_50 : decode cX7_run 50 = .ok (.getfield 10, 3) := by decide +kernel
theorem dX7_run_53 : decode cX7_run 53 = .ok (.invokevirtual 43, 3) := by decide +kernel
theorem dX7_run_56 : decode cX7_run 56 = .ok (.aload_n 0, 1) := by decide +kernel
theorem dX7_run_57 : decode cX7_run 57 = .ok (.getfield 10, 3) := by decide +kernel
theorem dX7_run_60 : decode cX7_run 60 = .ok (.getfield 154, 3) := by decide +kernel
theorem dX7_run_63 : decode cX7_run 63 = .ok (.istore_n 2, 1) := by decide +kernel
theorem dX7_run_64 : decode cX7_run 64 = .ok (.iconst 0, 1) := by decide +kernel
theorem dX7_run_65 : decode cX7_run 65 = .ok (.istore_n 3, 1) := by decide +kernel
theorem dX7_run_66 : decode cX7_run 66 = .ok (.iload_n 3, 1) := by decide +kernel
theorem dX7_run_67 : decode cX7_run 67 = .ok (.iload_n 1, 1) := by decide +kernel
theorem dX7_run_68 : decode cX7_run 68 = .ok (.if_icmp .ge 17, 3) := by decide +kernel
theorem dX7_run_71 : decode cX7_run 71 = .ok (.aload_n 0, 1) := by decide +kernel
theorem dX7_run_72 : decode cX7_run 72 = .ok (.getfield 10, 3) := by decide +kernel
theorem dX7_run_75 : decode cX7_run 75 = .ok (.invokevirtual 157, 3) := by decide +kernel
theorem dX7_run_78 : decode cX7_run 78 = .ok (.pop, 1) := by decide +kernel
theorem dX7_run_79 : decode cX7_run 79 = .ok (.iinc 3 1, 3) := by decide +kernel
theorem dX7_run_82 : decode cX7_run 82 = .ok (.goto (-16), 3) := by decide +kernel
theorem dX7_run_85 : decode cX7_run 85 = .ok (.aload_n 0, 1) := by decide +kernel
theorem dX7_run_86 : decode cX7_run 86 = .ok (.getfield 10, 3) := by decide +kernel
theorem dX7_run_89 : decode cX7_run 89 = .ok (.getfield 154, 3) := by decide +kernel
theorem dX7_run_92 : decode cX7_run 92 = .ok (.iload_n 2, 1) := by decide +kernel
theorem dX7_run_93 : decode cX7_run 93 = .ok (.isub, 1) := by decide +kernel
theorem dX7_run_94 : decode cX7_run 94 = .ok (.ireturn, 1) := by decide +kernel
theorem dX7_cam_0 : decode cX7_cam 0 = .ok (.iload_n 1, 1) := by decide +kernel
theorem dX7_cam_1 : decode cX7_cam 1 = .ok (.invokestatic 36, 3) := by decide +kernel
theorem dX7_cam_4 : decode cX7_cam 4 = .ok (.aload_n 0, 1) := by decide +kernel
theorem dX7_cam_5 : decode cX7_cam 5 = .ok (.iload_n 2, 1) := by decide +kernel
theorem dX7_cam_6 : decode cX7_cam 6 = .ok (.invokevirtual 40, 3) := by decide +kernel
theorem dX7_cam_9 : decode cX7_cam 9 = .ok (.aload_n 0, 1) := by decide +kernel
theorem dX7_cam_10 : decode cX7_cam 10 = .ok (.getfield 10, 3) := by decide +kernel
theorem dX7_cam_13 : decode cX7_cam 13 = .ok (.iload_n 1, 1) := by decide +kernel
theorem dX7_cam_14 : decode cX7_cam 14 = .ok (.iload_n 2, 1) := by decide +kernel
theorem dX7_cam_15 : decode cX7_cam 15 = .ok (.invokevirtual 161, 3) := by decide +kernel
theorem dX7_cam_18 : decode cX7_cam 18 = .ok (.ireturn, 1) := by decide +kernel
theorem dX7_cylinder_0 : decode cX7_cylinder 0 = .ok (.iload_n 1, 1) := by decide +kernel
theorem dX7_cylinder_1 : decode cX7_cylinder 1 = .ok (.invokestatic 36, 3) := by decide +kernel
theorem dX7_cylinder_4 : decode cX7_cylinder 4 = .ok (.iload_n 2, 1) := by decide +kernel
theorem dX7_cylinder_5 : decode cX7_cylinder 5 = .ok (.bipush 8, 2) := by decide +kernel
theorem dX7_cylinder_7 : decode cX7_cylinder 7 = .ok (.invokestatic 165, 3) := by decide +kernel
theorem dX7_cylinder_10 : decode cX7_cylinder 10 = .ok (.aload_n 0, 1) := by decide +kernel
theorem dX7_cylinder_11 : decode cX7_cylinder 11 = .ok (.getfield 10, 3) := by decide +kernel
theorem dX7_cylinder_14 : decode cX7_cylinder 14 = .ok (.iload_n 1, 1) := by decide +kernel
theorem dX7_cylinder_15 : decode cX7_cylinder 15 = .ok (.iload_n 2, 1) := by decide +kernel
theorem dX7_cylinder_16 : decode cX7_cylinder 16 = .ok (.invokevirtual 169, 3) := by decide +kernel
theorem dX7_cylinder_19 : decode cX7_cylinder 19 = .ok (.ireturn, 1) := by decide +kernel
theorem dX7_value_0 : decode cX7_value 0 = .ok (.iload_n 1, 1) := by decide +kernel
theorem dX7_value_1 : decode cX7_value 1 = .ok (.bipush 16, 2) := by decide +kernel
theorem dX7_value_3 : decode cX7_value 3 = .ok (.invokestatic 165, 3) := by decide +kernel
theorem dX7_value_6 : decode cX7_value 6 = .ok (.aload_n 0, 1) := by decide +kernel
theorem dX7_value_7 : decode cX7_value 7 = .ok (.getfield 10, 3) := by decide +kernel
theorem dX7_value_10 : decode cX7_value 10 = .ok (.iload_n 1, 1) := by decide +kernel
theorem dX7_value_11 : decode cX7_value 11 = .ok (.invokevirtual 176, 3) := by decide +kernel
theorem dX7_value_14 : decode cX7_value 14 = .ok (.ireturn, 1) := by decide +kernel
theorem dX7_chart_0 : decode cX7_chart 0 = .ok (.iload_n 1, 1) := by decide +kernel
theorem dX7_chart_1 : decode cX7_chart 1 = .ok (.invokestatic 36, 3) := by decide +kernel
theorem dX7_chart_4 : decode cX7_chart 4 = .ok (.aload_n 0, 1) := by decide +kernel
theorem dX7_chart_5 : decode cX7_chart 5 = .ok (.iload_n 2, 1) := by decide +kernel
theorem dX7_chart_6 : decode cX7_chart 6 = .ok (.invokevirtual 40, 3) := by decide +kernel
theorem dX7_chart_9 : decode cX7_chart 9 = .ok (.aload_n 0, 1) := by decide +kernel
theorem dX7_chart_10 : decode cX7_chart 10 = .ok (.getfield 10, 3) := by decide +kernel
theorem dX7_chart_13 : decode cX7_chart 13 = .ok (.getfield 179, 3) := by decide +kernel
theorem dX7_chart_16 : decode cX7_chart 16 = .ok (.iload_n 1, 1) := by decide +kernel
theorem dX7_chart_17 : decode cX7_chart 17 = .ok (.iload_n 2, 1) := by decide +kernel
theorem dX7_chart_18 : decode cX7_chart 18 = .ok (.invokevirtual 183, 3) := by decide +kernel
theorem dX7_chart_21 : decode cX7_chart 21 = .ok (.ireturn, 1) := by decide +kernel
theorem dX7_skips_0 : decode cX7_skips 0 = .ok (.aload_n 0, 1) := by decide +kernel
theorem dX7_skips_1 : decode cX7_skips 1 = .ok (.iload_n 1, 1) := by decide +kernel
theorem dX7_skips_2 : decode cX7_skips 2 = .ok (.invokevirtual 40, 3) := by decide +kernel
theorem dX7_skips_5 : decode cX7_skips 5 = .ok (.aload_n 0, 1) := by decide +kernel
theorem dX7_skips_6 : decode cX7_skips 6 = .ok (.getfield 10, 3) := by decide +kernel
theorem dX7_skips_9 : decode cX7_skips 9 = .ok (.getfield 179, 3) := by decide +kernel
theorem dX7_skips_12 : decode cX7_skips 12 = .ok (.iload_n 1, 1) := by decide +kernel
theorem dX7_skips_13 : decode cX7_skips 13 = .ok (.invokevirtual 188, 3) := by decide +kernel
theorem dX7_skips_16 : decode cX7_skips 16 = .ok (.ireturn, 1) := by decide +kernel
theorem dX7_ticksToOut_0 : decode cX7_ticksToOut 0 = .ok (.iload_n 1, 1) := by decide +kernel
theorem dX7_ticksToOut_1 : decode cX7_ticksToOut 1 = .ok (.invokestatic 36, 3) := by decide +kernel
theorem dX7_ticksToOut_4 : decode cX7_ticksToOut 4 = .ok (.aload_n 0, 1) := by decide +kernel
theorem dX7_ticksToOut_5 : decode cX7_ticksToOut 5 = .ok (.getfield 30, 3) := by decide +kernel
theorem dX7_ticksToOut_8 : decode cX7_ticksToOut 8 = .ok (.aload_n 0, 1) := by decide +kernel
theorem dX7_ticksToOut_9 : decode cX7_ticksToOut 9 = .ok (.getfield 10, 3) := by decide +kernel
theorem dX7_ticksToOut_12 : decode cX7_ticksToOut 12 = .ok (.invokevirtual 191, 3) := by decide +kernel
theorem dX7_ticksToOut_15 : decode cX7_ticksToOut 15 = .ok (.iconst 0, 1) := by decide +kernel
theorem dX7_ticksToOut_16 : decode cX7_ticksToOut 16 = .ok (.istore_n 2, 1) := by decide +kernel
theorem dX7_ticksToOut_17 : decode cX7_ticksToOut 17 = .ok (.iload_n 2, 1) := by decide +kernel
theorem dX7_ticksToOut_18 : decode cX7_ticksToOut 18 = .ok (.sipush 500, 3) := by decide +kernel
theorem dX7_ticksToOut_21 : decode cX7_ticksToOut 21 = .ok (.if_icmp .gt 36, 3) := by decide +kernel
theorem dX7_ticksToOut_24 : decode cX7_ticksToOut 24 = .ok (.aload_n 0, 1) := by decide +kernel
theorem dX7_ticksToOut_25 : decode cX7_ticksToOut 25 = .ok (.getfield 30, 3) := by decide +kernel
theorem dX7_ticksToOut_28 : decode cX7_ticksToOut 28 = .ok (.getfield 75, 3) := by decide +kernel
theorem dX7_ticksToOut_31 : decode cX7_ticksToOut 31 = .ok (.getfield 91, 3) := by decide +kernel
theorem dX7_ticksToOut_34 : decode cX7_ticksToOut 34 = .ok (.iload_n 1, 1) := by decide +kernel
theorem dX7_ticksToOut_35 : decode cX7_ticksToOut 35 = .ok (.iaload, 1) := by decide +kernel
theorem dX7_ticksToOut_36 : decode cX7_ticksToOut 36 = .ok (.bipush 100, 2) := by decide +kernel
theorem dX7_ticksToOut_38 : decode cX7_ticksToOut 38 = .ok (.if_icmp .ne 5, 3) := by decide +kernel
theorem dX7_ticksToOut_41 : decode cX7_ticksToOut 41 = .ok (.iload_n 2, 1) := by decide +kernel
theorem dX7_ticksToOut_42 : decode cX7_ticksToOut 42 = .ok (.ireturn, 1) := by decide +kernel
theorem dX7_ticksToOut_43 : decode cX7_ticksToOut 43 = .ok (.aload_n 0, 1) := by decide +kernel
theorem dX7_ticksToOut_44 : decode cX7_ticksToOut 44 = .ok (.getfield 30, 3) := by decide +kernel
theorem dX7_ticksToOut_47 : decode cX7_ticksToOut 47 = .ok (.invokevirtual 157, 3) := by decide +kernel
theorem dX7_ticksToOut_50 : decode cX7_ticksToOut 50 = .ok (.pop, 1) := by decide +kernel
theorem dX7_ticksToOut_51 : decode cX7_ticksToOut 51 = .ok (.iinc 2 1, 3) := by decide +kernel
theorem dX7_ticksToOut_54 : decode cX7_ticksToOut 54 = .ok (.goto (-37), 3) := by decide +kernel
theorem dX7_ticksToOut_57 : decode cX7_ticksToOut 57 = .ok (.iconst (-1), 1) := by decide +kernel
theorem dX7_ticksToOut_58 : decode cX7_ticksToOut 58 = .ok (.ireturn, 1) := by decide +kernel
theorem dX7_ticksToCycle_0 : decode cX7_ticksToCycle 0 = .ok (.aload_n 0, 1) := by decide +kernel
theorem dX7_ticksToCycle_1 : decode cX7_ticksToCycle 1 = .ok (.getfield 30, 3) := by decide +kernel
theorem dX7_ticksToCycle_4 : decode cX7_ticksToCycle 4 = .ok (.aload_n 0, 1) := by decide +kernel
theorem dX7_ticksToCycle_5 : decode cX7_ticksToCycle 5 = .ok (.getfield 10, 3) := by decide +kernel
theorem dX7_ticksToCycle_8 : decode cX7_ticksToCycle 8 = .ok (.invokevirtual 191, 3) := by decide +kernel
theorem dX7_ticksToCycle_11 : decode cX7_ticksToCycle 11 = .ok (.aload_n 0, 1) := by decide +kernel
theorem dX7_ticksToCycle_12 : decode cX7_ticksToCycle 12 = .ok (.getfield 30, 3) := by decide +kernel
theorem dX7_ticksToCycle_15 : decode cX7_ticksToCycle 15 = .ok (.sipush 1000, 3) := by decide +kernel
theorem dX7_ticksToCycle_18 : decode cX7_ticksToCycle 18 = .ok (.invokevirtual 194, 3) := by decide +kernel
theorem dX7_ticksToCycle_21 : decode cX7_ticksToCycle 21 = .ok (.ireturn, 1) := by decide +kernel
theorem dX7_leastCompressor_0 : decode cX7_leastCompressor 0 = .ok (.iload_n 1, 1) := by decide +kernel
theorem dX7_leastCompressor_1 : decode cX7_leastCompressor 1 = .ok (.iconst 1, 1) := by decide +kernel
theorem dX7_leastCompressor_2 : decode cX7_leastCompressor 2 = .ok (.sipush 300, 3) := by decide +kernel
theorem dX7_leastCompressor_5 : decode cX7_leastCompressor 5 = .ok (.invokestatic 55, 3) := by decide +kernel
theorem dX7_leastCompressor_8 : decode cX7_leastCompressor 8 = .ok (.ifCond .ne 13, 3) := by decide +kernel
theorem dX7_leastCompressor_11 : decode cX7_leastCompressor 11 = .ok (.new 59, 3) := by decide +kernel
theorem dX7_leastCompressor_14 : decode cX7_leastCompressor 14 = .ok (.dup, 1) := by decide +kernel
theorem dX7_leastCompressor_15 : decode cX7_leastCompressor 15 = .ok (.ldc 146, 2) := by decide +kernel
theorem dX7_leastCompressor_17 : decode cX7_leastCompressor 17 = .ok (.invokespecial 63, 3) := by decide +kernel
theorem dX7_leastCompressor_20 : decode cX7_leastCompressor 20 = .ok (.athrow, 1) := by decide +kernel
theorem dX7_leastCompressor_21 : decode cX7_leastCompressor 21 = .ok (.iconst 0, 1) := by decide +kernel
theorem dX7_leastCompressor_22 : decode cX7_leastCompressor 22 = .ok (.istore_n 2, 1) := by decide +kernel
theorem dX7_leastCompressor_23 : decode cX7_leastCompressor 23 = .ok (.iload_n 2, 1) := by decide +kernel
theorem dX7_leastCompressor_24 : decode cX7_leastCompressor 24 = .ok (.sipush 500, 3) := by decide +kernel
theorem dX7_leastCompressor_27 : decode cX7_leastCompressor 27 = .ok (.if_icmp .gt 20, 3) := by decide +kernel
theorem dX7_leastCompressor_30 : decode cX7_leastCompressor 30 = .ok (.aload_n 0, 1) := by decide +kernel
theorem dX7_leastCompressor_31 : decode cX7_leastCompressor 31 = .ok (.iload_n 2, 1) := by decide +kernel
theorem dX7_leastCompressor_32 : decode cX7_leastCompressor 32 = .ok (.iload_n 1, 1) := by decide +kernel
theorem dX7_leastCompressor_33 : decode cX7_leastCompressor 33 = .ok (.invokevirtual 197, 3) := by decide +kernel
theorem dX7_leastCompressor_36 : decode cX7_leastCompressor 36 = .ok (.ifCond .eq 5, 3) := by decide +kernel
theorem dX7_leastCompressor_39 : decode cX7_leastCompressor 39 = .ok (.iload_n 2, 1) := by decide +kernel
theorem dX7_leastCompressor_40 : decode cX7_leastCompressor 40 = .ok (.ireturn, 1) := by decide +kernel
theorem dX7_leastCompressor_41 : decode cX7_leastCompressor 41 = .ok (.iinc 2 10, 3) := by decide +kernel
theorem dX7_leastCompressor_44 : decode cX7_leastCompressor 44 = .ok (.goto (-21), 3) := by decide +kernel
theorem dX7_leastCompressor_47 : decode cX7_leastCompressor 47 = .ok (.iconst (-1), 1) := by decide +kernel
theorem dX7_leastCompressor_48 : decode cX7_leastCompressor 48 = .ok (.ireturn, 1) := by decide +kernel
theorem dX7_useful_0 : decode cX7_useful 0 = .ok (.aload_n 0, 1) := by decide +kernel
theorem dX7_useful_1 : decode cX7_useful 1 = .ok (.getfield 10, 3) := by decide +kernel
theorem dX7_useful_4 : decode cX7_useful 4 = .ok (.getfield 96, 3) := by decide +kernel
theorem dX7_useful_7 : decode cX7_useful 7 = .ok (.getfield 208, 3) := by decide +kernel
theorem dX7_useful_10 : decode cX7_useful 10 = .ok (.ifCond .le 29, 3) := by decide +kernel
theorem dX7_useful_13 : decode cX7_useful 13 = .ok (.aload_n 0, 1) := by decide +kernel
theorem dX7_useful_14 : decode cX7_useful 14 = .ok (.getfield 10, 3) := by decide +kernel
theorem dX7_useful_17 : decode cX7_useful 17 = .ok (.getfield 96, 3) := by decide +kernel
theorem dX7_useful_20 : decode cX7_useful 20 = .ok (.getfield 211, 3) := by decide +kernel
theorem dX7_useful_23 : decode cX7_useful 23 = .ok (.i2d, 1) := by decide +kernel
theorem dX7_useful_24 : decode cX7_useful 24 = .ok (.aload_n 0, 1) := by decide +kernel
theorem dX7_useful_25 : decode cX7_useful 25 = .ok (.getfield 10, 3) := by decide +kernel
theorem dX7_useful_28 : decode cX7_useful 28 = .ok (.getfield 96, 3) := by decide +kernel
theorem dX7_useful_31 : decode cX7_useful 31 = .ok (.getfield 208, 3) := by decide +kernel
theorem dX7_useful_34 : decode cX7_useful 34 = .ok (.i2d, 1) := by decide +kernel
theorem dX7_useful_35 : decode cX7_useful 35 = .ok (.ddiv, 1) := by decide +kernel
theorem dX7_useful_36 : decode cX7_useful 36 = .ok (.goto 4, 3) := by decide +kernel
theorem dX7_useful_39 : decode cX7_useful 39 = .ok (.dconst 0, 1) := by decide +kernel
theorem dX7_useful_40 : decode cX7_useful 40 = .ok (.dreturn, 1) := by decide +kernel
theorem dX7_undo_0 : decode cX7_undo 0 = .ok (.aload_n 0, 1) := by decide +kernel
theorem dX7_undo_1 : decode cX7_undo 1 = .ok (.getfield 19, 3) := by decide +kernel
theorem dX7_undo_4 : decode cX7_undo 4 = .ok (.getfield 236, 3) := by decide +kernel
theorem dX7_undo_7 : decode cX7_undo 7 = .ok (.ifCond .ne 13, 3) := by decide +kernel
theorem dX7_undo_10 : decode cX7_undo 10 = .ok (.new 125, 3) := by decide +kernel
theorem dX7_undo_13 : decode cX7_undo 13 = .ok (.dup, 1) := by decide +kernel
theorem dX7_undo_14 : decode cX7_undo 14 = .ok (.ldc 237, 2) := by decide +kernel
theorem dX7_undo_16 : decode cX7_undo 16 = .ok (.invokespecial 129, 3) := by decide +kernel
theorem dX7_undo_19 : decode cX7_undo 19 = .ok (.athrow, 1) := by decide +kernel
theorem dX7_undo_20 : decode cX7_undo 20 = .ok (.aload_n 0, 1) := by decide +kernel
theorem dX7_undo_21 : decode cX7_undo 21 = .ok (.getfield 19, 3) := by decide +kernel
theorem dX7_undo_24 : decode cX7_undo 24 = .ok (.aload_n 0, 1) := by decide +kernel
theorem dX7_undo_25 : decode cX7_undo 25 = .ok (.getfield 10, 3) := by decide +kernel
theorem dX7_undo_28 : decode cX7_undo 28 = .ok (.invokevirtual 239, 3) := by decide +kernel
theorem dX7_undo_31 : decode cX7_undo 31 = .ok (.aload_n 0, 1) := by decide +kernel
theorem dX7_undo_32 : decode cX7_undo 32 = .ok (.getfield 19, 3) := by decide +kernel
theorem dX7_undo_35 : decode cX7_undo 35 = .ok (.getfield 236, 3) := by decide +kernel
theorem dX7_undo_38 : decode cX7_undo 38 = .ok (.ireturn, 1) := by decide +kernel
theorem dX7_within_0 : decode cX7_within 0 = .ok (.iload_n 0, 1) := by decide +kernel
theorem dX7_within_1 : decode cX7_within 1 = .ok (.iload_n 1, 1) := by decide +kernel
theorem dX7_within_2 : decode cX7_within 2 = .ok (.if_icmp .lt 12, 3) := by decide +kernel
theorem dX7_within_5 : decode cX7_within 5 = .ok (.iload_n 0, 1) := by decide +kernel
theorem dX7_within_6 : decode cX7_within 6 = .ok (.iload_n 2, 1) := by decide +kernel
theorem dX7_within_7 : decode cX7_within 7 = .ok (.if_icmp .gt 7, 3) := by decide +kernel
theorem dX7_within_10 : decode cX7_within 10 = .ok (.iconst 1, 1) := by decide +kernel
theorem dX7_within_11 : decode cX7_within 11 = .ok (.goto 4, 3) := by decide +kernel
theorem dX7_within_14 : decode cX7_within 14 = .ok (.iconst 0, 1) := by decide +kernel
theorem dX7_within_15 : decode cX7_within 15 = .ok (.ireturn, 1) := by decide +kernel
theorem dX7_requireCylinder_0 : decode cX7_requireCylinder 0 = .ok (.iload_n 0, 1) := by decide +kernel
theorem dX7_requireCylinder_1 : decode cX7_requireCylinder 1 = .ok (.iconst 0, 1) := by decide +kernel
theorem dX7_requireCylinder_2 : decode cX7_requireCylinder 2 = .ok (.iconst 4, 1) := by decide +kernel
theorem dX7_requireCylinder_3 : decode cX7_requireCylinder 3 = .ok (.invokestatic 55, 3) := by decide +kernel
theorem dX7_requireCylinder_6 : decode cX7_requireCylinder 6 = .ok (.ifCond .ne 14, 3) := by decide +kernel
theorem dX7_requireCylinder_9 : decode cX7_requireCylinder 9 = .ok (.new 261, 3) := by decide +kernel
theorem dX7_requireCylinder_12 : decode cX7_requireCylinder 12 = .ok (.dup, 1) := by decide +kernel
theorem dX7_requireCylinder_13 : decode cX7_requireCylinder 13 = .ok (.ldc_w 263, 3) := by decide +kernel
theorem dX7_requireCylinder_16 : decode cX7_requireCylinder 16 = .ok (.invokespecial 265, 3) := by decide +kernel
theorem dX7_requireCylinder_19 : decode cX7_requireCylinder 19 = .ok (.athrow, 1) := by decide +kernel
theorem dX7_requireCylinder_20 : decode cX7_requireCylinder 20 = .ok (.return_, 1) := by decide +kernel
theorem dX7_requireStep_0 : decode cX7_requireStep 0 = .ok (.iload_n 1, 1) := by decide +kernel
theorem dX7_requireStep_1 : decode cX7_requireStep 1 = .ok (.iconst 0, 1) := by decide +kernel
theorem dX7_requireStep_2 : decode cX7_requireStep 2 = .ok (.aload_n 0, 1) := by decide +kernel
theorem dX7_requireStep_3 : decode cX7_requireStep 3 = .ok (.getfield 10, 3) := by decide +kernel
theorem dX7_requireStep_6 : decode cX7_requireStep 6 = .ok (.getfield 223, 3) := by decide +kernel
theorem dX7_requireStep_9 : decode cX7_requireStep 9 = .ok (.iconst 1, 1) := by decide +kernel
theorem dX7_requireStep_10 : decode cX7_requireStep 10 = .ok (.isub, 1) := by decide +kernel
theorem dX7_requireStep_11 : decode cX7_requireStep 11 = .ok (.invokestatic 55, 3) := by decide +kernel
theorem dX7_requireStep_14 : decode cX7_requireStep 14 = .ok (.ifCond .ne 14, 3) := by decide +kernel
theorem dX7_requireStep_17 : decode cX7_requireStep 17 = .ok (.new 261, 3) := by decide +kernel
theorem dX7_requireStep_20 : decode cX7_requireStep 20 = .ok (.dup, 1) := by decide +kernel
theorem dX7_requireStep_21 : decode cX7_requireStep 21 = .ok (.ldc_w 266, 3) := by decide +kernel
theorem dX7_requireStep_24 : decode cX7_requireStep 24 = .ok (.invokespecial 265, 3) := by decide +kernel
theorem dX7_requireStep_27 : decode cX7_requireStep 27 = .ok (.athrow, 1) := by decide +kernel
theorem dX7_requireStep_28 : decode cX7_requireStep 28 = .ok (.return_, 1) := by decide +kernel
theorem dX7_requireGuard_0 : decode cX7_requireGuard 0 = .ok (.iload_n 1, 1) := by decide +kernel
theorem dX7_requireGuard_1 : decode cX7_requireGuard 1 = .ok (.iconst 0, 1) := by decide +kernel
theorem dX7_requireGuard_2 : decode cX7_requireGuard 2 = .ok (.aload_n 0, 1) := by decide +kernel
theorem dX7_requireGuard_3 : decode cX7_requireGuard 3 = .ok (.getfield 10, 3) := by decide +kernel
theorem dX7_requireGuard_6 : decode cX7_requireGuard 6 = .ok (.getfield 116, 3) := by decide +kernel
theorem dX7_requireGuard_9 : decode cX7_requireGuard 9 = .ok (.getfield 120, 3) := by decide +kernel
theorem dX7_requireGuard_12 : decode cX7_requireGuard 12 = .ok (.iconst 4, 1) := by decide +kernel
theorem dX7_requireGuard_13 : decode cX7_requireGuard 13 = .ok (.invokestatic 268, 3) := by decide +kernel
theorem dX7_requireGuard_16 : decode cX7_requireGuard 16 = .ok (.iconst 1, 1) := by decide +kernel
theorem dX7_requireGuard_17 : decode cX7_requireGuard 17 = .ok (.isub, 1) := by decide +kernel
theorem dX7_requireGuard_18 : decode cX7_requireGuard 18 = .ok (.invokestatic 55, 3) := by decide +kernel
theorem dX7_requireGuard_21 : decode cX7_requireGuard 21 = .ok (.ifCond .ne 14, 3) := by decide +kernel
theorem dX7_requireGuard_24 : decode cX7_requireGuard 24 = .ok (.new 261, 3) := by decide +kernel
theorem dX7_requireGuard_27 : decode cX7_requireGuard 27 = .ok (.dup, 1) := by decide +kernel
theorem dX7_requireGuard_28 : decode cX7_requireGuard 28 = .ok (.ldc_w 273, 3) := by decide +kernel
theorem dX7_requireGuard_31 : decode cX7_requireGuard 31 = .ok (.invokespecial 265, 3) := by decide +kernel
theorem dX7_requireGuard_34 : decode cX7_requireGuard 34 = .ok (.athrow, 1) := by decide +kernel
theorem dX7_requireGuard_35 : decode cX7_requireGuard 35 = .ok (.return_, 1) := by decide +kernel
theorem dX7_requireWhat_0 : decode cX7_requireWhat 0 = .ok (.iload_n 0, 1) := by decide +kernel
theorem dX7_requireWhat_1 : decode cX7_requireWhat 1 = .ok (.iconst 0, 1) := by decide +kernel
theorem dX7_requireWhat_2 : decode cX7_requireWhat 2 = .ok (.iload_n 1, 1) := by decide +kernel
theorem dX7_requireWhat_3 : decode cX7_requireWhat 3 = .ok (.iconst 1, 1) := by decide +kernel
theorem dX7_requireWhat_4 : decode cX7_requireWhat 4 = .ok (.isub, 1) := by decide +kernel
theorem dX7_requireWhat_5 : decode cX7_requireWhat 5 = .ok (.invokestatic 55, 3) := by decide +kernel
theorem dX7_requireWhat_8 : decode cX7_requireWhat 8 = .ok (.ifCond .ne 14, 3) := by decide +kernel
theorem dX7_requireWhat_11 : decode cX7_requireWhat 11 = .ok (.new 59, 3) := by decide +kernel
theorem dX7_requireWhat_14 : decode cX7_requireWhat 14 = .ok (.dup, 1) := by decide +kernel
theorem dX7_requireWhat_15 : decode cX7_requireWhat 15 = .ok (.ldc_w 275, 3) := by decide +kernel
theorem dX7_requireWhat_18 : decode cX7_requireWhat 18 = .ok (.invokespecial 63, 3) := by decide +kernel
theorem dX7_requireWhat_21 : decode cX7_requireWhat 21 = .ok (.athrow, 1) := by decide +kernel
theorem dX7_requireWhat_22 : decode cX7_requireWhat 22 = .ok (.return_, 1) := by decide +kernel
theorem dX7_goesWithoutSkip_0 : decode cX7_goesWithoutSkip 0 = .ok (.aload_n 0, 1) := by decide +kernel
theorem dX7_goesWithoutSkip_1 : decode cX7_goesWithoutSkip 1 = .ok (.getfield 30, 3) := by decide +kernel
theorem dX7_goesWithoutSkip_4 : decode cX7_goesWithoutSkip 4 = .ok (.aload_n 0, 1) := by decide +kernel
theorem dX7_goesWithoutSkip_5 : decode cX7_goesWithoutSkip 5 = .ok (.getfield 10, 3) := by decide +kernel
theorem dX7_goesWithoutSkip_8 : decode cX7_goesWithoutSkip 8 = .ok (.invokevirtual 191, 3) := by decide +kernel
theorem dX7_goesWithoutSkip_11 : decode cX7_goesWithoutSkip 11 = .ok (.aload_n 0, 1) := by decide +kernel
theorem dX7_goesWithoutSkip_12 : decode cX7_goesWithoutSkip 12 = .ok (.getfield 30, 3) := by decide +kernel
theorem dX7_goesWithoutSkip_15 : decode cX7_goesWithoutSkip 15 = .ok (.getfield 96, 3) := by decide +kernel
theorem dX7_goesWithoutSkip_18 : decode cX7_goesWithoutSkip 18 = .ok (.iload_n 1, 1) := by decide +kernel
theorem dX7_goesWithoutSkip_19 : decode cX7_goesWithoutSkip 19 = .ok (.putfield 105, 3) := by decide +kernel
theorem dX7_goesWithoutSkip_22 : decode cX7_goesWithoutSkip 22 = .ok (.iconst 0, 1) := by decide +kernel
theorem dX7_goesWithoutSkip_23 : decode cX7_goesWithoutSkip 23 = .ok (.istore_n 3, 1) := by decide +kernel
theorem dX7_goesWithoutSkip_24 : decode cX7_goesWithoutSkip 24 = .ok (.iload_n 3, 1) := by decide +kernel
theorem dX7_goesWithoutSkip_25 : decode cX7_goesWithoutSkip 25 = .ok (.iload_n 2, 1) := by decide +kernel
theorem dX7_goesWithoutSkip_26 : decode cX7_goesWithoutSkip 26 = .ok (.if_icmp .ge 22, 3) := by decide +kernel
theorem dX7_goesWithoutSkip_29 : decode cX7_goesWithoutSkip 29 = .ok (.aload_n 0, 1) := by decide +kernel
theorem dX7_goesWithoutSkip_30 : decode cX7_goesWithoutSkip 30 = .ok (.getfield 30, 3) := by decide +kernel
theorem dX7_goesWithoutSkip_33 : decode cX7_goesWithoutSkip 33 = .ok (.invokevirtual 157, 3) := by decide +kernel
theorem dX7_goesWithoutSkip_36 : decode cX7_goesWithoutSkip 36 = .ok (.iconst 1, 1) := by decide +kernel
theorem dX7_goesWithoutSkip_37 : decode cX7_goesWithoutSkip 37 = .ok (.if_icmp .ne 5, 3) := by decide +kernel
theorem dX7_goesWithoutSkip_40 : decode cX7_goesWithoutSkip 40 = .ok (.iconst 0, 1) := by decide +kernel
theorem dX7_goesWithoutSkip_41 : decode cX7_goesWithoutSkip 41 = .ok (.ireturn, 1) := by decide +kernel
theorem dX7_goesWithoutSkip_42 : decode cX7_goesWithoutSkip 42 = .ok (.iinc 3 1, 3) := by decide +kernel
theorem dX7_goesWithoutSkip_45 : decode cX7_goesWithoutSkip 45 = .ok (.goto (-21), 3) := by decide +kernel
theorem dX7_goesWithoutSkip_48 : decode cX7_goesWithoutSkip 48 = .ok (.iconst 1, 1) := by decide +kernel
theorem dX7_goesWithoutSkip_49 : decode cX7_goesWithoutSkip 49 = .ok (.ireturn, 1) := by decide +kernel
theorem dX7_copyRow_0 : decode cX7_copyRow 0 = .ok (.aload_n 0, 1) := by decide +kernel
theorem dX7_copyRow_1 : decode cX7_copyRow 1 = .ok (.iconst 0, 1) := by decide +kernel
theorem dX7_copyRow_2 : decode cX7_copyRow 2 = .ok (.aload_n 1, 1) := by decide +kernel
theorem dX7_copyRow_3 : decode cX7_copyRow 3 = .ok (.iconst 0, 1) := by decide +kernel
theorem dX7_copyRow_4 : decode cX7_copyRow 4 = .ok (.aload_n 0, 1) := by decide +kernel
theorem dX7_copyRow_5 : decode cX7_copyRow 5 = .ok (.arraylength, 1) := by decide +kernel
theorem dX7_copyRow_6 : decode cX7_copyRow 6 = .ok (.aload_n 1, 1) := by decide +kernel
theorem dX7_copyRow_7 : decode cX7_copyRow 7 = .ok (.arraylength, 1) := by decide +kernel
theorem dX7_copyRow_8 : decode cX7_copyRow 8 = .ok (.invokestatic 268, 3) := by decide +kernel
theorem dX7_copyRow_11 : decode cX7_copyRow 11 = .ok (.invokestatic 289, 3) := by decide +kernel
theorem dX7_copyRow_14 : decode cX7_copyRow 14 = .ok (.return_, 1) := by decide +kernel
theorem dJ6_bitCount_0f7a4_0 : decode cJ6_bitCount_0f7a4 0 = .ok (.iload_n 0, 1) := by decide +kernel
theorem dJ6_bitCount_0f7a4_1 : decode cJ6_bitCount_0f7a4 1 = .ok (.iload_n 0, 1) := by decide +kernel
theorem dJ6_bitCount_0f7a4_2 : decode cJ6_bitCount_0f7a4 2 = .ok (.iconst 1, 1) := by decide +kernel
theorem dJ6_bitCount_0f7a4_3 : decode cJ6_bitCount_0f7a4 3 = .ok (.iushr, 1) := by decide +kernel
theorem dJ6_bitCount_0f7a4_4 : decode cJ6_bitCount_0f7a4 4 = .ok (.ldc_w 265, 3) := by decide +kernel
theorem dJ6_bitCount_0f7a4_7 : decode cJ6_bitCount_0f7a4 7 = .ok (.iand, 1) := by decide +kernel
theorem dJ6_bitCount_0f7a4_8 : decode cJ6_bitCount_0f7a4 8 = .ok (.isub, 1) := by decide +kernel
theorem dJ6_bitCount_0f7a4_9 : decode cJ6_bitCount_0f7a4 9 = .ok (.istore_n 0, 1) := by decide +kernel
theorem dJ6_bitCount_0f7a4_10 : decode cJ6_bitCount_0f7a4 10 = .ok (.iload_n 0, 1) := by decide +kernel
theorem dJ6_bitCount_0f7a4_11 : decode cJ6_bitCount_0f7a4 11 = .ok (.ldc_w 266, 3) := by decide +kernel
theorem dJ6_bitCount_0f7a4_14 : decode cJ6_bitCount_0f7a4 14 = .ok (.iand, 1) := by decide +kernel
theorem dJ6_bitCount_0f7a4_15 : decode cJ6_bitCount_0f7a4 15 = .ok (.iload_n 0, 1) := by decide +kernel
theorem dJ6_bitCount_0f7a4_16 : decode cJ6_bitCount_0f7a4 16 = .ok (.iconst 2, 1) := by decide +kernel
theorem dJ6_bitCount_0f7a4_17 : decode cJ6_bitCount_0f7a4 17 = .ok (.iushr, 1) := by decide +kernel
theorem dJ6_bitCount_0f7a4_18 : decode cJ6_bitCount_0f7a4 18 = .ok (.ldc_w 266, 3) := by decide +kernel
theorem dJ6_bitCount_0f7a4_21 : decode cJ6_bitCount_0f7a4 21 = .ok (.iand, 1) := by decide +kernel
theorem dJ6_bitCount_0f7a4_22 : decode cJ6_bitCount_0f7a4 22 = .ok (.iadd, 1) := by decide +kernel
theorem dJ6_bitCount_0f7a4_23 : decode cJ6_bitCount_0f7a4 23 = .ok (.istore_n 0, 1) := by decide +kernel
theorem dJ6_bitCount_0f7a4_24 : decode cJ6_bitCount_0f7a4 24 = .ok (.iload_n 0, 1) := by decide +kernel
theorem dJ6_bitCount_0f7a4_25 : decode cJ6_bitCount_0f7a4 25 = .ok (.iload_n 0, 1) := by decide +kernel
theorem dJ6_bitCount_0f7a4_26 : decode cJ6_bitCount_0f7a4 26 = .ok (.iconst 4, 1) := by decide +kernel
theorem dJ6_bitCount_0f7a4_27 : decode cJ6_bitCount_0f7a4 27 = .ok (.iushr, 1) := by decide +kernel
theorem dJ6_bitCount_0f7a4_28 : decode cJ6_bitCount_0f7a4 28 = .ok (.iadd, 1) := by decide +kernel
theorem dJ6_bitCount_0f7a4_29 : decode cJ6_bitCount_0f7a4 29 = .ok (.ldc_w 267, 3) := by decide +kernel
theorem dJ6_bitCount_0f7a4_32 : decode cJ6_bitCount_0f7a4 32 = .ok (.iand, 1) := by decide +kernel
theorem dJ6_bitCount_0f7a4_33 : decode cJ6_bitCount_0f7a4 33 = .ok (.istore_n 0, 1) := by decide +kernel
theorem dJ6_bitCount_0f7a4_34 : decode cJ6_bitCount_0f7a4 34 = .ok (.iload_n 0, 1) := by decide +kernel
theorem dJ6_bitCount_0f7a4_35 : decode cJ6_bitCount_0f7a4 35 = .ok (.iload_n 0, 1) := by decide +kernel
theorem dJ6_bitCount_0f7a4_36 : decode cJ6_bitCount_0f7a4 36 = .ok (.bipush 8, 2) := by decide +kernel
theorem dJ6_bitCount_0f7a4_38 : decode cJ6_bitCount_0f7a4 38 = .ok (.iushr, 1) := by decide +kernel
theorem dJ6_bitCount_0f7a4_39 : decode cJ6_bitCount_0f7a4 39 = .ok (.iadd, 1) := by decide +kernel
theorem dJ6_bitCount_0f7a4_40 : decode cJ6_bitCount_0f7a4 40 = .ok (.istore_n 0, 1) := by decide +kernel
theorem dJ6_bitCount_0f7a4_41 : decode cJ6_bitCount_0f7a4 41 = .ok (.iload_n 0, 1) := by decide +kernel
theorem dJ6_bitCount_0f7a4_42 : decode cJ6_bitCount_0f7a4 42 = .ok (.iload_n 0, 1) := by decide +kernel
theorem dJ6_bitCount_0f7a4_43 : decode cJ6_bitCount_0f7a4 43 = .ok (.bipush 16, 2) := by decide +kernel
theorem dJ6_bitCount_0f7a4_45 : decode cJ6_bitCount_0f7a4 45 = .ok (.iushr, 1) := by decide +kernel
theorem dJ6_bitCount_0f7a4_46 : decode cJ6_bitCount_0f7a4 46 = .ok (.iadd, 1) := by decide +kernel
theorem dJ6_bitCount_0f7a4_47 : decode cJ6_bitCount_0f7a4 47 = .ok (.istore_n 0, 1) := by decide +kernel
theorem dJ6_bitCount_0f7a4_48 : decode cJ6_bitCount_0f7a4 48 = .ok (.iload_n 0, 1) := by decide +kernel
theorem dJ6_bitCount_0f7a4_49 : decode cJ6_bitCount_0f7a4 49 = .ok (.bipush 63, 2) := by decide +kernel
theorem dJ6_bitCount_0f7a4_51 : decode cJ6_bitCount_0f7a4 51 = .ok (.iand, 1) := by decide +kernel
theorem dJ6_bitCount_0f7a4_52 : decode cJ6_bitCount_0f7a4 52 = .ok (.ireturn, 1) := by decide +kernel
theorem dJ9_max_7cf53_0 : decode cJ9_max_7cf53 0 = .ok (.iload_n 0, 1) := by decide +kernel
theorem dJ9_max_7cf53_1 : decode cJ9_max_7cf53 1 = .ok (.iload_n 1, 1) := by decide +kernel
theorem dJ9_max_7cf53_2 : decode cJ9_max_7cf53 2 = .ok (.if_icmp .lt 7, 3) := by decide +kernel
theorem dJ9_max_7cf53_5 : decode cJ9_max_7cf53 5 = .ok (.iload_n 0, 1) := by decide +kernel
theorem dJ9_max_7cf53_6 : decode cJ9_max_7cf53 6 = .ok (.goto 4, 3) := by decide +kernel
theorem dJ9_max_7cf53_9 : decode cJ9_max_7cf53 9 = .ok (.iload_n 1, 1) := by decide +kernel
theorem dJ9_max_7cf53_10 : decode cJ9_max_7cf53 10 = .ok (.ireturn, 1) := by decide +kernel
theorem dJ9_min_7cf53_0 : decode cJ9_min_7cf53 0 = .ok (.iload_n 0, 1) := by decide +kernel
theorem dJ9_min_7cf53_1 : decode cJ9_min_7cf53 1 = .ok (.iload_n 1, 1) := by decide +kernel
theorem dJ9_min_7cf53_2 : decode cJ9_min_7cf53 2 = .ok (.if_icmp .gt 7, 3) := by decide +kernel
theorem dJ9_min_7cf53_5 : decode cJ9_min_7cf53 5 = .ok (.iload_n 0, 1) := by decide +kernel
theorem dJ9_min_7cf53_6 : decode cJ9_min_7cf53 6 = .ok (.goto 4, 3) := by decide +kernel
theorem dJ9_min_7cf53_9 : decode cJ9_min_7cf53 9 = .ok (.iload_n 1, 1) := by decide +kernel
theorem dJ9_min_7cf53_10 : decode cJ9_min_7cf53 10 = .ok (.ireturn, 1) := by decide +kernel
theorem dJ7_fill_53178_0 : decode cJ7_fill_53178 0 = .ok (.iconst 0, 1) := by decide +kernel
theorem dJ7_fill_53178_1 : decode cJ7_fill_53178 1 = .ok (.istore_n 2, 1) := by decide +kernel
theorem dJ7_fill_53178_2 : decode cJ7_fill_53178 2 = .ok (.aload_n 0, 1) := by decide +kernel
theorem dJ7_fill_53178_3 : decode cJ7_fill_53178 3 = .ok (.arraylength, 1) := by decide +kernel
theorem dJ7_fill_53178_4 : decode cJ7_fill_53178 4 = .ok (.istore_n 3, 1) := by decide +kernel
theorem dJ7_fill_53178_5 : decode cJ7_fill_53178 5 = .ok (.iload_n 2, 1) := by decide +kernel
theorem dJ7_fill_53178_6 : decode cJ7_fill_53178 6 = .ok (.iload_n 3, 1) := by decide +kernel
theorem dJ7_fill_53178_7 : decode cJ7_fill_53178 7 = .ok (.if_icmp .ge 13, 3) := by decide +kernel
theorem dJ7_fill_53178_10 : decode cJ7_fill_53178 10 = .ok (.aload_n 0, 1) := by decide +kernel
theorem dJ7_fill_53178_11 : decode cJ7_fill_53178 11 = .ok (.iload_n 2, 1) := by decide +kernel
theorem dJ7_fill_53178_12 : decode cJ7_fill_53178 12 = .ok (.iload_n 1, 1) := by decide +kernel
theorem dJ7_fill_53178_13 : decode cJ7_fill_53178 13 = .ok (.iastore, 1) := by decide +kernel
theorem dJ7_fill_53178_14 : decode cJ7_fill_53178 14 = .ok (.iinc 2 1, 3) := by decide +kernel
theorem dJ7_fill_53178_17 : decode cJ7_fill_53178 17 = .ok (.goto (-12), 3) := by decide +kernel
theorem dJ7_fill_53178_20 : decode cJ7_fill_53178 20 = .ok (.return_, 1) := by decide +kernel
theorem dL_cell_0 : decode cL_cell 0 = .ok (.iload_n 1, 1) := by decide +kernel
theorem dL_cell_1 : decode cL_cell 1 = .ok (.aload_n 0, 1) := by decide +kernel
theorem dL_cell_2 : decode cL_cell 2 = .ok (.arraylength, 1) := by decide +kernel
theorem dL_cell_3 : decode cL_cell 3 = .ok (.if_icmp .ge 9, 3) := by decide +kernel
theorem dL_cell_6 : decode cL_cell 6 = .ok (.aload_n 0, 1) := by decide +kernel
theorem dL_cell_7 : decode cL_cell 7 = .ok (.iload_n 1, 1) := by decide +kernel
theorem dL_cell_8 : decode cL_cell 8 = .ok (.iaload, 1) := by decide +kernel
theorem dL_cell_9 : decode cL_cell 9 = .ok (.goto 11, 3) := by decide +kernel
theorem dL_cell_12 : decode cL_cell 12 = .ok (.ldc 7, 2) := by decide +kernel
theorem dL_cell_14 : decode cL_cell 14 = .ok (.iload_n 1, 1) := by decide +kernel
theorem dL_cell_15 : decode cL_cell 15 = .ok (.sipush 593, 3) := by decide +kernel
theorem dL_cell_18 : decode cL_cell 18 = .ok (.iadd, 1) := by decide +kernel
theorem dL_cell_19 : decode cL_cell 19 = .ok (.imul, 1) := by decide +kernel
theorem dL_cell_20 : decode cL_cell 20 = .ok (.ireturn, 1) := by decide +kernel
theorem dL_up_0 : decode cL_up 0 = .ok (.iload_n 0, 1) := by decide +kernel
theorem dL_up_1 : decode cL_up 1 = .ok (.ldc 8, 2) := by decide +kernel
theorem dL_up_3 : decode cL_up 3 = .ok (.iand, 1) := by decide +kernel
theorem dL_up_4 : decode cL_up 4 = .ok (.iload_n 1, 1) := by decide +kernel
theorem dL_up_5 : decode cL_up 5 = .ok (.irem, 1) := by decide +kernel
theorem dL_up_6 : decode cL_up 6 = .ok (.ireturn, 1) := by decide +kernel
theorem dL_isStep_0 : decode cL_isStep 0 = .ok (.iload_n 3, 1) := by decide +kernel
theorem dL_isStep_1 : decode cL_isStep 1 = .ok (.iconst 4, 1) := by decide +kernel
theorem dL_isStep_2 : decode cL_isStep 2 = .ok (.ishr, 1) := by decide +kernel
theorem dL_isStep_3 : decode cL_isStep 3 = .ok (.istore 4, 2) := by decide +kernel
theorem dL_isStep_5 : decode cL_isStep 5 = .ok (.iload 4, 2) := by decide +kernel
theorem dL_isStep_7 : decode cL_isStep 7 = .ok (.iconst 5, 1) := by decide +kernel
theorem dL_isStep_8 : decode cL_isStep 8 = .ok (.invokestatic 9, 3) := by decide +kernel
theorem dL_isStep_11 : decode cL_isStep 11 = .ok (.istore 5, 2) := by decide +kernel
theorem dL_isStep_13 : decode cL_isStep 13 = .ok (.iload_n 3, 1) := by decide +kernel
theorem dL_isStep_14 : decode cL_isStep 14 = .ok (.bipush 12, 2) := by decide +kernel
theorem dL_isStep_16 : decode cL_isStep 16 = .ok (.invokestatic 9, 3) := by decide +kernel
theorem dL_isStep_19 : decode cL_isStep 19 = .ok (.tableswitch 466 0 8 #[49, 49, 49, 49, 120, 175, 262, 323, 426], 49) := by decide +kernel
theorem dL_isStep_68 : decode cL_isStep 68 = .ok (.iload 4, 2) := by decide +kernel
theorem dL_isStep_70 : decode cL_isStep 70 = .ok (.iconst 3, 1) := by decide +kernel
theorem dL_isStep_71 : decode cL_isStep 71 = .ok (.ishr, 1) := by decide +kernel
theorem dL_isStep_72 : decode cL_isStep 72 = .ok (.bipush 8, 2) := by decide +kernel
theorem dL_isStep_74 : decode cL_isStep 74 = .ok (.invokestatic 9, 3) := by decide +kernel
theorem dL_isStep_77 : decode cL_isStep 77 = .ok (.istore 6, 2) := by decide +kernel
theorem dL_isStep_79 : decode cL_isStep 79 = .ok (.aload_n 0, 1) := by decide +kernel
theorem dL_isStep_80 : decode cL_isStep 80 = .ok (.iload 5, 2) := by decide +kernel
theorem dL_isStep_82 : decode cL_isStep 82 = .ok (.iload 6, 2) := by decide +kernel
theorem dL_isStep_84 : decode cL_isStep 84 = .ok (.iload 4, 2) := by decide +kernel
theorem dL_isStep_86 : decode cL_isStep 86 = .ok (.bipush 7, 2) := by decide +kernel
theorem dL_isStep_88 : decode cL_isStep 88 = .ok (.ishr, 1) := by decide +kernel
theorem dL_isStep_89 : decode cL_isStep 89 = .ok (.iconst 3, 1) := by decide +kernel
theorem dL_isStep_90 : decode cL_isStep 90 = .ok (.iand, 1) := by decide +kernel
theorem dL_isStep_91 : decode cL_isStep 91 = .ok (.ifCond .eq 7, 3) := by decide +kernel
theorem dL_isStep_94 : decode cL_isStep 94 = .ok (.iconst 1, 1) := by decide +kernel
theorem dL_isStep_95 : decode cL_isStep 95 = .ok (.goto 4, 3) := by decide +kernel
theorem dL_isStep_98 : decode cL_isStep 98 = .ok (.iconst 0, 1) := by decide +kernel
theorem dL_isStep_99 : decode cL_isStep 99 = .ok (.invokevirtual 15, 3) := by decide +kernel
theorem dL_isStep_102 : decode cL_isStep 102 = .ok (.aload_n 1, 1) := by decide +kernel
theorem dL_isStep_103 : decode cL_isStep 103 = .ok (.iload 5, 2) := by decide +kernel
theorem dL_isStep_105 : decode cL_isStep 105 = .ok (.iload 6, 2) := by decide +kernel
theorem dL_isStep_107 : decode cL_isStep 107 = .ok (.iload_n 2, 1) := by decide +kernel
theorem dL_isStep_108 : decode cL_isStep 108 = .ok (.iadd, 1) := by decide +kernel
theorem dL_isStep_109 : decode cL_isStep 109 = .ok (.bipush 8, 2) := by decide +kernel
theorem dL_isStep_111 : decode cL_isStep 111 = .ok (.irem, 1) := by decide +kernel
theorem dL_isStep_112 : decode cL_isStep 112 = .ok (.iload 4, 2) := by decide +kernel
theorem dL_isStep_114 : decode cL_isStep 114 = .ok (.bipush 7, 2) := by decide +kernel
theorem dL_isStep_116 : decode cL_isStep 116 = .ok (.ishr, 1) := by decide +kernel
theorem dL_isStep_117 : decode cL_isStep 117 = .ok (.iconst 3, 1) := by decide +kernel
theorem dL_isStep_118 : decode cL_isStep 118 = .ok (.iand, 1) := by decide +kernel
theorem dL_isStep_119 : decode cL_isStep 119 = .ok (.ifCond .eq 7, 3) := by decide +kernel
theorem dL_isStep_122 : decode cL_isStep 122 = .ok (.iconst 1, 1) := by decide +kernel
theorem dL_isStep_123 : decode cL_isStep 123 = .ok (.goto 4, 3) := by decide +kernel
theorem dL_isStep_126 : decode cL_isStep 126 = .ok (.iconst 0, 1) := by decide +kernel
theorem dL_isStep_127 : decode cL_isStep 127 = .ok (.invokevirtual 15, 3) := by decide +kernel
theorem dL_isStep_130 : decode cL_isStep 130 = .ok (.if_icmp .ne 7, 3) := by decide +kernel
theorem dL_isStep_133 : decode cL_isStep 133 = .ok (.iconst 1, 1) := by decide +kernel
theorem dL_isStep_134 : decode cL_isStep 134 = .ok (.goto 4, 3) := by decide +kernel
theorem dL_isStep_137 : decode cL_isStep 137 = .ok (.iconst 0, 1) := by decide +kernel
theorem dL_isStep_138 : decode cL_isStep 138 = .ok (.ireturn, 1) := by decide +kernel
theorem dL_isStep_139 : decode cL_isStep 139 = .ok (.aload_n 0, 1) := by decide +kernel
theorem dL_isStep_140 : decode cL_isStep 140 = .ok (.iconst 1, 1) := by decide +kernel
theorem dL_isStep_141 : decode cL_isStep 141 = .ok (.iload 4, 2) := by decide +kernel
theorem dL_isStep_143 : decode cL_isStep 143 = .ok (.bipush 6, 2) := by decide +kernel
theorem dL_isStep_145 : decode cL_isStep 145 = .ok (.invokestatic 9, 3) := by decide +kernel
theorem dL_isStep_148 : decode cL_isStep 148 = .ok (.iadd, 1) := by decide +kernel
theorem dL_isStep_149 : decode cL_isStep 149 = .ok (.iload 4, 2) := by decide +kernel
theorem dL_isStep_151 : decode cL_isStep 151 = .ok (.iconst 4, 1) := by decide +kernel
theorem dL_isStep_152 : decode cL_isStep 152 = .ok (.ishr, 1) := by decide +kernel
theorem dL_isStep_153 : decode cL_isStep 153 = .ok (.sipush 700, 3) := by decide +kernel
theorem dL_isStep_156 : decode cL_isStep 156 = .ok (.invokestatic 9, 3) := by decide +kernel
theorem dL_isStep_159 : decode cL_isStep 159 = .ok (.invokevirtual 21, 3) := by decide +kernel
theorem dL_isStep_162 : decode cL_isStep 162 = .ok (.aload_n 1, 1) := by decide +kernel
theorem dL_isStep_163 : decode cL_isStep 163 = .ok (.iconst 1, 1) := by decide +kernel
theorem dL_isStep_164 : decode cL_isStep 164 = .ok (.iload 4, 2) := by decide +kernel
theorem dL_isStep_166 : decode cL_isStep 166 = .ok (.bipush 6, 2) := by decide +kernel
theorem dL_isStep_168 : decode cL_isStep 168 = .ok (.invokestatic 9, 3) := by decide +kernel
theorem dL_isStep_171 : decode cL_isStep 171 = .ok (.iadd, 1) := by decide +kernel
theorem dL_isStep_172 : decode cL_isStep 172 = .ok (.iload 4, 2) := by decide +kernel
theorem dL_isStep_174 : decode cL_isStep 174 = .ok (.iconst 4, 1) := by decide +kernel
theorem dL_isStep_175 : decode cL_isStep 175 = .ok (.ishr, 1) := by decide +kernel
theorem dL_isStep_176 : decode cL_isStep 176 = .ok (.sipush 700, 3) := by decide +kernel
theorem dL_isStep_179 : decode cL_isStep 179 = .ok (.invokestatic 9, 3) := by decide +kernel
theorem dL_isStep_182 : decode cL_isStep 182 = .ok (.invokevirtual 21, 3) := by decide +kernel
theorem dL_isStep_185 : decode cL_isStep 185 = .ok (.if_icmp .ne 7, 3) := by decide +kernel
theorem dL_isStep_188 : decode cL_isStep 188 = .ok (.iconst 1, 1) := by decide +kernel
theorem dL_isStep_189 : decode cL_isStep 189 = .ok (.goto 4, 3) := by decide +kernel
theorem dL_isStep_192 : decode cL_isStep 192 = .ok (.iconst 0, 1) := by decide +kernel
theorem dL_isStep_193 : decode cL_isStep 193 = .ok (.ireturn, 1) := by decide +kernel
theorem dL_isStep_194 : decode cL_isStep 194 = .ok (.aload_n 0, 1) := by decide +kernel
theorem dL_isStep_195 : decode cL_isStep 195 = .ok (.iload 5, 2) := by decide +kernel
theorem dL_isStep_197 : decode cL_isStep 197 = .ok (.iconst 1, 1) := by decide +kernel
theorem dL_isStep_198 : decode cL_isStep 198 = .ok (.iload 4, 2) := by decide +kernel
theorem dL_isStep_200 : decode cL_isStep 200 = .ok (.iconst 3, 1) := by decide +kernel
theorem dL_isStep_201 : decode cL_isStep 201 = .ok (.ishr, 1) := by decide +kernel
theorem dL_isStep_202 : decode cL_isStep 202 = .ok (.bipush 9, 2) := by decide +kernel
theorem dL_isStep_204 : decode cL_isStep 204 = .ok (.invokestatic 9, 3) := by decide +kernel
theorem dL_isStep_207 : decode cL_isStep 207 = .ok (.iadd, 1) := by decide +kernel
theorem dL_isStep_208 : decode cL_isStep 208 = .ok (.iconst 1, 1) := by decide +kernel
theorem dL_isStep_209 : decode cL_isStep 209 = .ok (.iload 4, 2) := by decide +kernel
theorem dL_isStep_211 : decode cL_isStep 211 = .ok (.bipush 6, 2) := by decide +kernel
theorem dL_isStep_213 : decode cL_isStep 213 = .ok (.ishr, 1) := by decide +kernel
theorem dL_isStep_214 : decode cL_isStep 214 = .ok (.bipush 50, 2) := by decide +kernel
theorem dL_isStep_216 : decode cL_isStep 216 = .ok (.invokestatic 9, 3) := by decide +kernel
theorem dL_isStep_219 : decode cL_isStep 219 = .ok (.iadd, 1) := by decide +kernel
theorem dL_isStep_220 : decode cL_isStep 220 = .ok (.iload 4, 2) := by decide +kernel
theorem dL_isStep_222 : decode cL_isStep 222 = .ok (.bipush 12, 2) := by decide +kernel
theorem dL_isStep_224 : decode cL_isStep 224 = .ok (.ishr, 1) := by decide +kernel
theorem dL_isStep_225 : decode cL_isStep 225 = .ok (.bipush 21, 2) := by decide +kernel
theorem dL_isStep_227 : decode cL_isStep 227 = .ok (.invokestatic 9, 3) := by decide +kernel
theorem dL_isStep_230 : decode cL_isStep 230 = .ok (.invokevirtual 24, 3) := by decide +kernel
theorem dL_isStep_233 : decode cL_isStep 233 = .ok (.aload_n 1, 1) := by decide +kernel
theorem dL_isStep_234 : decode cL_isStep 234 = .ok (.iload 5, 2) := by decide +kernel
theorem dL_isStep_236 : decode cL_isStep 236 = .ok (.iconst 1, 1) := by decide +kernel
theorem dL_isStep_237 : decode cL_isStep 237 = .ok (.iload 4, 2) := by decide +kernel
theorem dL_isStep_239 : decode cL_isStep 239 = .ok (.iconst 3, 1) := by decide +kernel
theorem dL_isStep_240 : decode cL_isStep 240 = .ok (.ishr, 1) := by decide +kernel
theorem dL_isStep_241 : decode cL_isStep 241 = .ok (.bipush 9, 2) := by decide +kernel
theorem dL_isStep_243 : decode cL_isStep 243 = .ok (.invokestatic 9, 3) := by decide +kernel
theorem dL_isStep_246 : decode cL_isStep 246 = .ok (.iadd, 1) := by decide +kernel
theorem dL_isStep_247 : decode cL_isStep 247 = .ok (.iconst 1, 1) := by decide +kernel
theorem dL_isStep_248 : decode cL_isStep 248 = .ok (.iload 4, 2) := by decide +kernel
theorem dL_isStep_250 : decode cL_isStep 250 = .ok (.bipush 6, 2) := by decide +kernel
theorem dL_isStep_252 : decode cL_isStep 252 = .ok (.ishr, 1) := by decide +kernel
theorem dL_isStep_253 : decode cL_isStep 253 = .ok (.bipush 50, 2) := by decide +kernel
theorem dL_isStep_255 : decode cL_isStep 255 = .ok (.invokestatic 9, 3) := by decide +kernel
theorem dL_isStep_258 : decode cL_isStep 258 = .ok (.iadd, 1) := by decide +kernel
theorem dL_isStep_259 : decode cL_isStep 259 = .ok (.iload 4, 2) := by decide +kernel
theorem dL_isStep_261 : decode cL_isStep 261 = .ok (.bipush 12, 2) := by decide +kernel
theorem dL_isStep_263 : decode cL_isStep 263 = .ok (.ishr, 1) := by decide +kernel
theorem dL_isStep_264 : decode cL_isStep 264 = .ok (.bipush 21, 2) := by decide +kernel
theorem dL_isStep_266 : decode cL_isStep 266 = .ok (.invokestatic 9, 3) := by decide +kernel
theorem dL_isStep_269 : decode cL_isStep 269 = .ok (.invokevirtual 24, 3) := by decide +kernel
theorem dL_isStep_272 : decode cL_isStep 272 = .ok (.if_icmp .ne 7, 3) := by decide +kernel
theorem dL_isStep_275 : decode cL_isStep 275 = .ok (.iconst 1, 1) := by decide +kernel
theorem dL_isStep_276 : decode cL_isStep 276 = .ok (.goto 4, 3) := by decide +kernel
theorem dL_isStep_279 : decode cL_isStep 279 = .ok (.iconst 0, 1) := by decide +kernel
theorem dL_isStep_280 : decode cL_isStep 280 = .ok (.ireturn, 1) := by decide +kernel
theorem dL_isStep_281 : decode cL_isStep 281 = .ok (.aload_n 0, 1) := by decide +kernel
theorem dL_isStep_282 : decode cL_isStep 282 = .ok (.bipush 100, 2) := by decide +kernel
theorem dL_isStep_284 : decode cL_isStep 284 = .ok (.iload 4, 2) := by decide +kernel
theorem dL_isStep_286 : decode cL_isStep 286 = .ok (.sipush 1500, 3) := by decide +kernel
theorem dL_isStep_289 : decode cL_isStep 289 = .ok (.invokestatic 9, 3) := by decide +kernel
theorem dL_isStep_292 : decode cL_isStep 292 = .ok (.iadd, 1) := by decide +kernel
theorem dL_isStep_293 : decode cL_isStep 293 = .ok (.iload 4, 2) := by decide +kernel
theorem dL_isStep_295 : decode cL_isStep 295 = .ok (.bipush 9, 2) := by decide +kernel
theorem dL_isStep_297 : decode cL_isStep 297 = .ok (.ishr, 1) := by decide +kernel
theorem dL_isStep_298 : decode cL_isStep 298 = .ok (.sipush 150, 3) := by decide +kernel
theorem dL_isStep_301 : decode cL_isStep 301 = .ok (.invokestatic 9, 3) := by decide +kernel
theorem dL_isStep_304 : decode cL_isStep 304 = .ok (.invokevirtual 28, 3) := by decide +kernel
theorem dL_isStep_307 : decode cL_isStep 307 = .ok (.aload_n 1, 1) := by decide +kernel
theorem dL_isStep_308 : decode cL_isStep 308 = .ok (.bipush 100, 2) := by decide +kernel
theorem dL_isStep_310 : decode cL_isStep 310 = .ok (.iload 4, 2) := by decide +kernel
theorem dL_isStep_312 : decode cL_isStep 312 = .ok (.sipush 1500, 3) := by decide +kernel
theorem dL_isStep_315 : decode cL_isStep 315 = .ok (.invokestatic 9, 3) := by decide +kernel
theorem dL_isStep_318 : decode cL_isStep 318 = .ok (.iadd, 1) := by decide +kernel
theorem dL_isStep_319 : decode cL_isStep 319 = .ok (.iload 4, 2) := by decide +kernel
theorem dL_isStep_321 : decode cL_isStep 321 = .ok (.bipush 9, 2) := by decide +kernel
theorem dL_isStep_323 : decode cL_isStep 323 = .ok (.ishr, 1) := by decide +kernel
theorem dL_isStep_324 : decode cL_isStep 324 = .ok (.sipush 150, 3) := by decide +kernel
theorem dL_isStep_327 : decode cL_isStep 327 = .ok (.invokestatic 9, 3) := by decide +kernel
theorem dL_isStep_330 : decode cL_isStep 330 = .ok (.invokevirtual 28, 3) := by decide +kernel
theorem dL_isStep_333 : decode cL_isStep 333 = .ok (.if_icmp .ne 7, 3) := by decide +kernel
theorem dL_isStep_336 : decode cL_isStep 336 = .ok (.iconst 1, 1) := by decide +kernel
theorem dL_isStep_337 : decode cL_isStep 337 = .ok (.goto 4, 3) := by decide +kernel
theorem dL_isStep_340 : decode cL_isStep 340 = .ok (.iconst 0, 1) := by decide +kernel
theorem dL_isStep_341 : decode cL_isStep 341 = .ok (.ireturn, 1) := by decide +kernel
theorem dL_isStep_342 : decode cL_isStep 342 = .ok (.iload 5, 2) := by decide +kernel
theorem dL_isStep_344 : decode cL_isStep 344 = .ok (.iconst 1, 1) := by decide +kernel
theorem dL_isStep_345 : decode cL_isStep 345 = .ok (.iadd, 1) := by decide +kernel
theorem dL_isStep_346 : decode cL_isStep 346 = .ok (.iload 4, 2) := by decide +kernel
theorem dL_isStep_348 : decode cL_isStep 348 = .ok (.iconst 3, 1) := by decide +kernel
theorem dL_isStep_349 : decode cL_isStep 349 = .ok (.ishr, 1) := by decide +kernel
theorem dL_isStep_350 : decode cL_isStep 350 = .ok (.iconst 4, 1) := by decide +kernel
theorem dL_isStep_351 : decode cL_isStep 351 = .ok (.invokestatic 9, 3) := by decide +kernel
theorem dL_isStep_354 : decode cL_isStep 354 = .ok (.iadd, 1) := by decide +kernel
theorem dL_isStep_355 : decode cL_isStep 355 = .ok (.iconst 5, 1) := by decide +kernel
theorem dL_isStep_356 : decode cL_isStep 356 = .ok (.irem, 1) := by decide +kernel
theorem dL_isStep_357 : decode cL_isStep 357 = .ok (.istore 6, 2) := by decide +kernel
theorem dL_isStep_359 : decode cL_isStep 359 = .ok (.aload_n 0, 1) := by decide +kernel
theorem dL_isStep_360 : decode cL_isStep 360 = .ok (.bipush 8, 2) := by decide +kernel
theorem dL_isStep_362 : decode cL_isStep 362 = .ok (.invokevirtual 31, 3) := by decide +kernel
theorem dL_isStep_365 : decode cL_isStep 365 = .ok (.iconst 4, 1) := by decide +kernel
theorem dL_isStep_366 : decode cL_isStep 366 = .ok (.if_icmp .ne 30, 3) := by decide +kernel
theorem dL_isStep_369 : decode cL_isStep 369 = .ok (.aload_n 0, 1) := by decide +kernel
theorem dL_isStep_370 : decode cL_isStep 370 = .ok (.iload 5, 2) := by decide +kernel
theorem dL_isStep_372 : decode cL_isStep 372 = .ok (.iconst 4, 1) := by decide +kernel
theorem dL_isStep_373 : decode cL_isStep 373 = .ok (.irem, 1) := by decide +kernel
theorem dL_isStep_374 : decode cL_isStep 374 = .ok (.invokevirtual 35, 3) := by decide +kernel
theorem dL_isStep_377 : decode cL_isStep 377 = .ok (.aload_n 1, 1) := by decide +kernel
theorem dL_isStep_378 : decode cL_isStep 378 = .ok (.iload 5, 2) := by decide +kernel
theorem dL_isStep_380 : decode cL_isStep 380 = .ok (.iconst 4, 1) := by decide +kernel
theorem dL_isStep_381 : decode cL_isStep 381 = .ok (.irem, 1) := by decide +kernel
theorem dL_isStep_382 : decode cL_isStep 382 = .ok (.invokevirtual 35, 3) := by decide +kernel
theorem dL_isStep_385 : decode cL_isStep 385 = .ok (.if_icmp .ne 7, 3) := by decide +kernel
theorem dL_isStep_388 : decode cL_isStep 388 = .ok (.iconst 1, 1) := by decide +kernel
theorem dL_isStep_389 : decode cL_isStep 389 = .ok (.goto 55, 3) := by decide +kernel
theorem dL_isStep_392 : decode cL_isStep 392 = .ok (.iconst 0, 1) := by decide +kernel
theorem dL_isStep_393 : decode cL_isStep 393 = .ok (.goto 51, 3) := by decide +kernel
theorem dL_isStep_396 : decode cL_isStep 396 = .ok (.aload_n 0, 1) := by decide +kernel
theorem dL_isStep_397 : decode cL_isStep 397 = .ok (.iload 5, 2) := by decide +kernel
theorem dL_isStep_399 : decode cL_isStep 399 = .ok (.iload 6, 2) := by decide +kernel
theorem dL_isStep_401 : decode cL_isStep 401 = .ok (.iconst 1, 1) := by decide +kernel
theorem dL_isStep_402 : decode cL_isStep 402 = .ok (.iload 4, 2) := by decide +kernel
theorem dL_isStep_404 : decode cL_isStep 404 = .ok (.bipush 6, 2) := by decide +kernel
theorem dL_isStep_406 : decode cL_isStep 406 = .ok (.ishr, 1) := by decide +kernel
theorem dL_isStep_407 : decode cL_isStep 407 = .ok (.bipush 99, 2) := by decide +kernel
theorem dL_isStep_409 : decode cL_isStep 409 = .ok (.invokestatic 9, 3) := by decide +kernel
theorem dL_isStep_412 : decode cL_isStep 412 = .ok (.iadd, 1) := by decide +kernel
theorem dL_isStep_413 : decode cL_isStep 413 = .ok (.invokevirtual 38, 3) := by decide +kernel
theorem dL_isStep_416 : decode cL_isStep 416 = .ok (.aload_n 1, 1) := by decide +kernel
theorem dL_isStep_417 : decode cL_isStep 417 = .ok (.iload 5, 2) := by decide +kernel
theorem dL_isStep_419 : decode cL_isStep 419 = .ok (.iload 6, 2) := by decide +kernel
theorem dL_isStep_421 : decode cL_isStep 421 = .ok (.iconst 1, 1) := by decide +kernel
theorem dL_isStep_422 : decode cL_isStep 422 = .ok (.iload 4, 2) := by decide +kernel
theorem dL_isStep_424 : decode cL_isStep 424 = .ok (.bipush 6, 2) := by decide +kernel
theorem dL_isStep_426 : decode cL_isStep 426 = .ok (.ishr, 1) := by decide +kernel
theorem dL_isStep_427 : decode cL_isStep 427 = .ok (.bipush 99, 2) := by decide +kernel
theorem dL_isStep_429 : decode cL_isStep 429 = .ok (.invokestatic 9, 3) := by decide +kernel
theorem dL_isStep_432 : decode cL_isStep 432 = .ok (.iadd, 1) := by decide +kernel
theorem dL_isStep_433 : decode cL_isStep 433 = .ok (.invokevirtual 38, 3) := by decide +kernel
theorem dL_isStep_436 : decode cL_isStep 436 = .ok (.if_icmp .ne 7, 3) := by decide +kernel
theorem dL_isStep_439 : decode cL_isStep 439 = .ok (.iconst 1, 1) := by decide +kernel
theorem dL_isStep_440 : decode cL_isStep 440 = .ok (.goto 4, 3) := by decide +kernel
theorem dL_isStep_443 : decode cL_isStep 443 = .ok (.iconst 0, 1) := by decide +kernel
theorem dL_isStep_444 : decode cL_isStep 444 = .ok (.ireturn, 1) := by decide +kernel
theorem dL_isStep_445 : decode cL_isStep 445 = .ok (.iload 4, 2) := by decide +kernel
theorem dL_isStep_447 : decode cL_isStep 447 = .ok (.bipush 8, 2) := by decide +kernel
theorem dL_isStep_449 : decode cL_isStep 449 = .ok (.invokestatic 9, 3) := by decide +kernel
theorem dL_isStep_452 : decode cL_isStep 452 = .ok (.istore 6, 2) := by decide +kernel
theorem dL_isStep_454 : decode cL_isStep 454 = .ok (.aload_n 0, 1) := by decide +kernel
theorem dL_isStep_455 : decode cL_isStep 455 = .ok (.iload 6, 2) := by decide +kernel
theorem dL_isStep_457 : decode cL_isStep 457 = .ok (.invokevirtual 42, 3) := by decide +kernel
theorem dL_isStep_460 : decode cL_isStep 460 = .ok (.iload_n 2, 1) := by decide +kernel
theorem dL_isStep_461 : decode cL_isStep 461 = .ok (.iadd, 1) := by decide +kernel
theorem dL_isStep_462 : decode cL_isStep 462 = .ok (.bipush 8, 2) := by decide +kernel
theorem dL_isStep_464 : decode cL_isStep 464 = .ok (.irem, 1) := by decide +kernel
theorem dL_isStep_465 : decode cL_isStep 465 = .ok (.aload_n 1, 1) := by decide +kernel
theorem dL_isStep_466 : decode cL_isStep 466 = .ok (.iload 6, 2) := by decide +kernel
theorem dL_isStep_468 : decode cL_isStep 468 = .ok (.iload_n 2, 1) := by decide +kernel
theorem dL_isStep_469 : decode cL_isStep 469 = .ok (.iadd, 1) := by decide +kernel
theorem dL_isStep_470 : decode cL_isStep 470 = .ok (.bipush 8, 2) := by decide +kernel
theorem dL_isStep_472 : decode cL_isStep 472 = .ok (.irem, 1) := by decide +kernel
theorem dL_isStep_473 : decode cL_isStep 473 = .ok (.invokevirtual 42, 3) := by decide +kernel
theorem dL_isStep_476 : decode cL_isStep 476 = .ok (.if_icmp .ne 7, 3) := by decide +kernel
theorem dL_isStep_479 : decode cL_isStep 479 = .ok (.iconst 1, 1) := by decide +kernel
theorem dL_isStep_480 : decode cL_isStep 480 = .ok (.goto 4, 3) := by decide +kernel
theorem dL_isStep_483 : decode cL_isStep 483 = .ok (.iconst 0, 1) := by decide +kernel
theorem dL_isStep_484 : decode cL_isStep 484 = .ok (.ireturn, 1) := by decide +kernel
theorem dL_isStep_485 : decode cL_isStep 485 = .ok (.aload_n 0, 1) := by decide +kernel
theorem dL_isStep_486 : decode cL_isStep 486 = .ok (.iconst 1, 1) := by decide +kernel
theorem dL_isStep_487 : decode cL_isStep 487 = .ok (.iload 4, 2) := by decide +kernel
theorem dL_isStep_489 : decode cL_isStep 489 = .ok (.bipush 30, 2) := by decide +kernel
theorem dL_isStep_491 : decode cL_isStep 491 = .ok (.invokestatic 9, 3) := by decide +kernel
theorem dL_isStep_494 : decode cL_isStep 494 = .ok (.iadd, 1) := by decide +kernel
theorem dL_isStep_495 : decode cL_isStep 495 = .ok (.invokevirtual 45, 3) := by decide +kernel
theorem dL_isStep_498 : decode cL_isStep 498 = .ok (.ifCond .lt 23, 3) := by decide +kernel
theorem dL_isStep_501 : decode cL_isStep 501 = .ok (.aload_n 1, 1) := by decide +kernel
theorem dL_isStep_502 : decode cL_isStep 502 = .ok (.iconst 1, 1) := by decide +kernel
theorem dL_isStep_503 : decode cL_isStep 503 = .ok (.iload 4, 2) := by decide +kernel
theorem dL_isStep_505 : decode cL_isStep 505 = .ok (.bipush 30, 2) := by decide +kernel
theorem dL_isStep_507 : decode cL_isStep 507 = .ok (.invokestatic 9, 3) := by decide +kernel
theorem dL_isStep_510 : decode cL_isStep 510 = .ok (.iadd, 1) := by decide +kernel
theorem dL_isStep_511 : decode cL_isStep 511 = .ok (.invokevirtual 45, 3) := by decide +kernel
theorem dL_isStep_514 : decode cL_isStep 514 = .ok (.ifCond .lt 7, 3) := by decide +kernel
theorem dL_isStep_517 : decode cL_isStep 517 = .ok (.iconst 1, 1) := by decide +kernel
theorem dL_isStep_518 : decode cL_isStep 518 = .ok (.goto 4, 3) := by decide +kernel
theorem dL_isStep_521 : decode cL_isStep 521 = .ok (.iconst 0, 1) := by decide +kernel
theorem dL_isStep_522 : decode cL_isStep 522 = .ok (.ireturn, 1) := by decide +kernel
theorem dL_areAlike_0 : decode cL_areAlike 0 = .ok (.aload_n 0, 1) := by decide +kernel
theorem dL_areAlike_1 : decode cL_areAlike 1 = .ok (.iconst 1, 1) := by decide +kernel
theorem dL_areAlike_2 : decode cL_areAlike 2 = .ok (.invokevirtual 31, 3) := by decide +kernel
theorem dL_areAlike_5 : decode cL_areAlike 5 = .ok (.iload_n 2, 1) := by decide +kernel
theorem dL_areAlike_6 : decode cL_areAlike 6 = .ok (.iadd, 1) := by decide +kernel
theorem dL_areAlike_7 : decode cL_areAlike 7 = .ok (.bipush 8, 2) := by decide +kernel
theorem dL_areAlike_9 : decode cL_areAlike 9 = .ok (.irem, 1) := by decide +kernel
theorem dL_areAlike_10 : decode cL_areAlike 10 = .ok (.aload_n 1, 1) := by decide +kernel
theorem dL_areAlike_11 : decode cL_areAlike 11 = .ok (.iconst 1, 1) := by decide +kernel
theorem dL_areAlike_12 : decode cL_areAlike 12 = .ok (.invokevirtual 31, 3) := by decide +kernel
theorem dL_areAlike_15 : decode cL_areAlike 15 = .ok (.if_icmp .ne 19, 3) := by decide +kernel
theorem dL_areAlike_18 : decode cL_areAlike 18 = .ok (.aload_n 0, 1) := by decide +kernel
theorem dL_areAlike_19 : decode cL_areAlike 19 = .ok (.invokevirtual 48, 3) := by decide +kernel
theorem dL_areAlike_22 : decode cL_areAlike 22 = .ok (.aload_n 1, 1) := by decide +kernel
theorem dL_areAlike_23 : decode cL_areAlike 23 = .ok (.invokevirtual 48, 3) := by decide +kernel
theorem dL_areAlike_26 : decode cL_areAlike 26 = .ok (.dcmp .l, 1) := by decide +kernel
theorem dL_areAlike_27 : decode cL_areAlike 27 = .ok (.ifCond .ne 7, 3) := by decide +kernel
theorem dL_areAlike_30 : decode cL_areAlike 30 = .ok (.iconst 1, 1) := by decide +kernel
theorem dL_areAlike_31 : decode cL_areAlike 31 = .ok (.goto 4, 3) := by decide +kernel
theorem dL_areAlike_34 : decode cL_areAlike 34 = .ok (.iconst 0, 1) := by decide +kernel
theorem dL_areAlike_35 : decode cL_areAlike 35 = .ok (.istore_n 3, 1) := by decide +kernel
theorem dL_areAlike_36 : decode cL_areAlike 36 = .ok (.iconst 2, 1) := by decide +kernel
theorem dL_areAlike_37 : decode cL_areAlike 37 = .ok (.istore 4, 2) := by decide +kernel
theorem dL_areAlike_39 : decode cL_areAlike 39 = .ok (.iload 4, 2) := by decide +kernel
theorem dL_areAlike_41 : decode cL_areAlike 41 = .ok (.bipush 16, 2) := by decide +kernel
theorem dL_areAlike_43 : decode cL_areAlike 43 = .ok (.if_icmp .ge 41, 3) := by decide +kernel
theorem dL_areAlike_46 : decode cL_areAlike 46 = .ok (.iload_n 3, 1) := by decide +kernel
theorem dL_areAlike_47 : decode cL_areAlike 47 = .ok (.ifCond .eq 29, 3) := by decide +kernel
theorem dL_areAlike_50 : decode cL_areAlike 50 = .ok (.iload 4, 2) := by decide +kernel
theorem dL_areAlike_52 : decode cL_areAlike 52 = .ok (.bipush 10, 2) := by decide +kernel
theorem dL_areAlike_54 : decode cL_areAlike 54 = .ok (.if_icmp .eq 18, 3) := by decide +kernel
theorem dL_areAlike_57 : decode cL_areAlike 57 = .ok (.aload_n 0, 1) := by decide +kernel
theorem dL_areAlike_58 : decode cL_areAlike 58 = .ok (.iload 4, 2) := by decide +kernel
theorem dL_areAlike_60 : decode cL_areAlike 60 = .ok (.invokevirtual 31, 3) := by decide +kernel
theorem dL_areAlike_63 : decode cL_areAlike 63 = .ok (.aload_n 1, 1) := by decide +kernel
theorem dL_areAlike_64 : decode cL_areAlike 64 = .ok (.iload 4, 2) := by decide +kernel
theorem dL_areAlike_66 : decode cL_areAlike 66 = .ok (.invokevirtual 31, 3) := by decide +kernel
theorem dL_areAlike_69 : decode cL_areAlike 69 = .ok (.if_icmp .ne 7, 3) := by decide +kernel
theorem dL_areAlike_72 : decode cL_areAlike 72 = .ok (.iconst 1, 1) := by decide +kernel
theorem dL_areAlike_73 : decode cL_areAlike 73 = .ok (.goto 4, 3) := by decide +kernel
theorem dL_areAlike_76 : decode cL_areAlike 76 = .ok (.iconst 0, 1) := by decide +kernel
theorem dL_areAlike_77 : decode cL_areAlike 77 = .ok (.istore_n 3, 1) := by decide +kernel
theorem dL_areAlike_78 : decode cL_areAlike 78 = .ok (.iinc 4 1, 3) := by decide +kernel
theorem dL_areAlike_81 : decode cL_areAlike 81 = .ok (.goto (-42), 3) := by decide +kernel
theorem dL_areAlike_84 : decode cL_areAlike 84 = .ok (.iconst 0, 1) := by decide +kernel
theorem dL_areAlike_85 : decode cL_areAlike 85 = .ok (.istore 4, 2) := by decide +kernel
theorem dL_areAlike_87 : decode cL_areAlike 87 = .ok (.iload 4, 2) := by decide +kernel
theorem dL_areAlike_89 : decode cL_areAlike 89 = .ok (.iconst 5, 1) := by decide +kernel
theorem dL_areAlike_90 : decode cL_areAlike 90 = .ok (.if_icmp .ge 79, 3) := by decide +kernel
theorem dL_areAlike_93 : decode cL_areAlike 93 = .ok (.iconst 0, 1) := by decide +kernel
theorem dL_areAlike_94 : decode cL_areAlike 94 = .ok (.istore 5, 2) := by decide +kernel
theorem dL_areAlike_96 : decode cL_areAlike 96 = .ok (.iload 5, 2) := by decide +kernel
theorem dL_areAlike_98 : decode cL_areAlike 98 = .ok (.bipush 8, 2) := by decide +kernel
theorem dL_areAlike_100 : decode cL_areAlike 100 = .ok (.if_icmp .ge 38, 3) := by decide +kernel
theorem dL_areAlike_103 : decode cL_areAlike 103 = .ok (.iload_n 3, 1) := by decide +kernel
theorem dL_areAlike_104 : decode cL_areAlike 104 = .ok (.ifCond .eq 26, 3) := by decide +kernel
theorem dL_areAlike_107 : decode cL_areAlike 107 = .ok (.aload_n 0, 1) := by decide +kernel
theorem dL_areAlike_108 : decode cL_areAlike 108 = .ok (.iload 4, 2) := by decide +kernel
theorem dL_areAlike_110 : decode cL_areAlike 110 = .ok (.iload 5, 2) := by decide +kernel
theorem dL_areAlike_112 : decode cL_areAlike 112 = .ok (.invokevirtual 52, 3) := by decide +kernel
theorem dL_areAlike_115 : decode cL_areAlike 115 = .ok (.aload_n 1, 1) := by decide +kernel
theorem dL_areAlike_116 : decode cL_areAlike 116 = .ok (.iload 4, 2) := by decide +kernel
theorem dL_areAlike_118 : decode cL_areAlike 118 = .ok (.iload 5, 2) := by decide +kernel
theorem dL_areAlike_120 : decode cL_areAlike 120 = .ok (.invokevirtual 52, 3) := by decide +kernel
theorem dL_areAlike_123 : decode cL_areAlike 123 = .ok (.if_icmp .ne 7, 3) := by decide +kernel
theorem dL_areAlike_126 : decode cL_areAlike 126 = .ok (.iconst 1, 1) := by decide +kernel
theorem dL_areAlike_127 : decode cL_areAlike 127 = .ok (.goto 4, 3) := by decide +kernel
theorem dL_areAlike_130 : decode cL_areAlike 130 = .ok (.iconst 0, 1) := by decide +kernel
theorem dL_areAlike_131 : decode cL_areAlike 131 = .ok (.istore_n 3, 1) := by decide +kernel
theorem dL_areAlike_132 : decode cL_areAlike 132 = .ok (.iinc 5 1, 3) := by decide +kernel
theorem dL_areAlike_135 : decode cL_areAlike 135 = .ok (.goto (-39), 3) := by decide +kernel
theorem dL_areAlike_138 : decode cL_areAlike 138 = .ok (.iload_n 3, 1) := by decide +kernel
theorem dL_areAlike_139 : decode cL_areAlike 139 = .ok (.ifCond .eq 22, 3) := by decide +kernel
theorem dL_areAlike_142 : decode cL_areAlike 142 = .ok (.aload_n 0, 1) := by decide +kernel
theorem dL_areAlike_143 : decode cL_areAlike 143 = .ok (.iload 4, 2) := by decide +kernel
theorem dL_areAlike_145 : decode cL_areAlike 145 = .ok (.invokevirtual 55, 3) := by decide +kernel
theorem dL_areAlike_148 : decode cL_areAlike 148 = .ok (.aload_n 1, 1) := by decide +kernel
theorem dL_areAlike_149 : decode cL_areAlike 149 = .ok (.iload 4, 2) := by decide +kernel
theorem dL_areAlike_151 : decode cL_areAlike 151 = .ok (.invokevirtual 55, 3) := by decide +kernel
theorem dL_areAlike_154 : decode cL_areAlike 154 = .ok (.if_icmp .ne 7, 3) := by decide +kernel
theorem dL_areAlike_157 : decode cL_areAlike 157 = .ok (.iconst 1, 1) := by decide +kernel
theorem dL_areAlike_158 : decode cL_areAlike 158 = .ok (.goto 4, 3) := by decide +kernel
theorem dL_areAlike_161 : decode cL_areAlike 161 = .ok (.iconst 0, 1) := by decide +kernel
theorem dL_areAlike_162 : decode cL_areAlike 162 = .ok (.istore_n 3, 1) := by decide +kernel
theorem dL_areAlike_163 : decode cL_areAlike 163 = .ok (.iinc 4 1, 3) := by decide +kernel
theorem dL_areAlike_166 : decode cL_areAlike 166 = .ok (.goto (-79), 3) := by decide +kernel
theorem dL_areAlike_169 : decode cL_areAlike 169 = .ok (.iconst 0, 1) := by decide +kernel
theorem dL_areAlike_170 : decode cL_areAlike 170 = .ok (.istore 4, 2) := by decide +kernel
theorem dL_areAlike_172 : decode cL_areAlike 172 = .ok (.iload 4, 2) := by decide +kernel
theorem dL_areAlike_174 : decode cL_areAlike 174 = .ok (.bipush 8, 2) := by decide +kernel
theorem dL_areAlike_176 : decode cL_areAlike 176 = .ok (.if_icmp .ge 105, 3) := by decide +kernel
theorem dL_areAlike_179 : decode cL_areAlike 179 = .ok (.iload_n 3, 1) := by decide +kernel
theorem dL_areAlike_180 : decode cL_areAlike 180 = .ok (.ifCond .eq 93, 3) := by decide +kernel
theorem dL_areAlike_183 : decode cL_areAlike 183 = .ok (.aload_n 0, 1) := by decide +kernel
theorem dL_areAlike_184 : decode cL_areAlike 184 = .ok (.iload 4, 2) := by decide +kernel
theorem dL_areAlike_186 : decode cL_areAlike 186 = .ok (.invokevirtual 58, 3) := by decide +kernel
theorem dL_areAlike_189 : decode cL_areAlike 189 = .ok (.aload_n 1, 1) := by decide +kernel
theorem dL_areAlike_190 : decode cL_areAlike 190 = .ok (.iload 4, 2) := by decide +kernel
theorem dL_areAlike_192 : decode cL_areAlike 192 = .ok (.iload_n 2, 1) := by decide +kernel
theorem dL_areAlike_193 : decode cL_areAlike 193 = .ok (.iadd, 1) := by decide +kernel
theorem dL_areAlike_194 : decode cL_areAlike 194 = .ok (.bipush 8, 2) := by decide +kernel
theorem dL_areAlike_196 : decode cL_areAlike 196 = .ok (.irem, 1) := by decide +kernel
theorem dL_areAlike_197 : decode cL_areAlike 197 = .ok (.invokevirtual 58, 3) := by decide +kernel
theorem dL_areAlike_200 : decode cL_areAlike 200 = .ok (.if_icmp .ne 73, 3) := by decide +kernel
theorem dL_areAlike_203 : decode cL_areAlike 203 = .ok (.aload_n 0, 1) := by decide +kernel
theorem dL_areAlike_204 : decode cL_areAlike 204 = .ok (.iconst 0, 1) := by decide +kernel
theorem dL_areAlike_205 : decode cL_areAlike 205 = .ok (.iload 4, 2) := by decide +kernel
theorem dL_areAlike_207 : decode cL_areAlike 207 = .ok (.invokevirtual 61, 3) := by decide +kernel
theorem dL_areAlike_210 : decode cL_areAlike 210 = .ok (.aload_n 1, 1) := by decide +kernel
theorem dL_areAlike_211 : decode cL_areAlike 211 = .ok (.iconst 0, 1) := by decide +kernel
theorem dL_areAlike_212 : decode cL_areAlike 212 = .ok (.iload 4, 2) := by decide +kernel
theorem dL_areAlike_214 : decode cL_areAlike 214 = .ok (.iload_n 2, 1) := by decide +kernel
theorem dL_areAlike_215 : decode cL_areAlike 215 = .ok (.iadd, 1) := by decide +kernel
theorem dL_areAlike_216 : decode cL_areAlike 216 = .ok (.bipush 8, 2) := by decide +kernel
theorem dL_areAlike_218 : decode cL_areAlike 218 = .ok (.irem, 1) := by decide +kernel
theorem dL_areAlike_219 : decode cL_areAlike 219 = .ok (.invokevirtual 61, 3) := by decide +kernel
theorem dL_areAlike_222 : decode cL_areAlike 222 = .ok (.if_icmp .ne 51, 3) := by decide +kernel
theorem dL_areAlike_225 : decode cL_areAlike 225 = .ok (.aload_n 0, 1) := by decide +kernel
theorem dL_areAlike_226 : decode cL_areAlike 226 = .ok (.iconst 4, 1) := by decide +kernel
theorem dL_areAlike_227 : decode cL_areAlike 227 = .ok (.iload 4, 2) := by decide +kernel
theorem dL_areAlike_229 : decode cL_areAlike 229 = .ok (.invokevirtual 61, 3) := by decide +kernel
theorem dL_areAlike_232 : decode cL_areAlike 232 = .ok (.aload_n 1, 1) := by decide +kernel
theorem dL_areAlike_233 : decode cL_areAlike 233 = .ok (.iconst 4, 1) := by decide +kernel
theorem dL_areAlike_234 : decode cL_areAlike 234 = .ok (.iload 4, 2) := by decide +kernel
theorem dL_areAlike_236 : decode cL_areAlike 236 = .ok (.iload_n 2, 1) := by decide +kernel
theorem dL_areAlike_237 : decode cL_areAlike 237 = .ok (.iadd, 1) := by decide +kernel
theorem dL_areAlike_238 : decode cL_areAlike 238 = .ok (.bipush 8, 2) := by decide +kernel
theorem dL_areAlike_240 : decode cL_areAlike 240 = .ok (.irem, 1) := by decide +kernel
theorem dL_areAlike_241 : decode cL_areAlike 241 = .ok (.invokevirtual 61, 3) := by decide +kernel
theorem dL_areAlike_244 : decode cL_areAlike 244 = .ok (.if_icmp .ne 29, 3) := by decide +kernel
theorem dL_areAlike_247 : decode cL_areAlike 247 = .ok (.aload_n 0, 1) := by decide +kernel
theorem dL_areAlike_248 : decode cL_areAlike 248 = .ok (.iconst 2, 1) := by decide +kernel
theorem dL_areAlike_249 : decode cL_areAlike 249 = .ok (.iload 4, 2) := by decide +kernel
theorem dL_areAlike_251 : decode cL_areAlike 251 = .ok (.invokevirtual 64, 3) := by decide +kernel
theorem dL_areAlike_254 : decode cL_areAlike 254 = .ok (.aload_n 1, 1) := by decide +kernel
theorem dL_areAlike_255 : decode cL_areAlike 255 = .ok (.iconst 2, 1) := by decide +kernel
theorem dL_areAlike_256 : decode cL_areAlike 256 = .ok (.iload 4, 2) := by decide +kernel
theorem dL_areAlike_258 : decode cL_areAlike 258 = .ok (.iload_n 2, 1) := by decide +kernel
theorem dL_areAlike_259 : decode cL_areAlike 259 = .ok (.iadd, 1) := by decide +kernel
theorem dL_areAlike_260 : decode cL_areAlike 260 = .ok (.bipush 8, 2) := by decide +kernel
theorem dL_areAlike_262 : decode cL_areAlike 262 = .ok (.irem, 1) := by decide +kernel
theorem dL_areAlike_263 : decode cL_areAlike 263 = .ok (.invokevirtual 64, 3) := by decide +kernel
theorem dL_areAlike_266 : decode cL_areAlike 266 = .ok (.if_icmp .ne 7, 3) := by decide +kernel
theorem dL_areAlike_269 : decode cL_areAlike 269 = .ok (.iconst 1, 1) := by decide +kernel
theorem dL_areAlike_270 : decode cL_areAlike 270 = .ok (.goto 4, 3) := by decide +kernel
theorem dL_areAlike_273 : decode cL_areAlike 273 = .ok (.iconst 0, 1) := by decide +kernel
theorem dL_areAlike_274 : decode cL_areAlike 274 = .ok (.istore_n 3, 1) := by decide +kernel
theorem dL_areAlike_275 : decode cL_areAlike 275 = .ok (.iinc 4 1, 3) := by decide +kernel
theorem dL_areAlike_278 : decode cL_areAlike 278 = .ok (.goto (-106), 3) := by decide +kernel
theorem dL_areAlike_281 : decode cL_areAlike 281 = .ok (.iload_n 3, 1) := by decide +kernel
theorem dL_areAlike_282 : decode cL_areAlike 282 = .ok (.ifCond .eq 22, 3) := by decide +kernel
theorem dL_areAlike_285 : decode cL_areAlike 285 = .ok (.aload_n 0, 1) := by decide +kernel
theorem dL_areAlike_286 : decode cL_areAlike 286 = .ok (.bipush 20, 2) := by decide +kernel
theorem dL_areAlike_288 : decode cL_areAlike 288 = .ok (.invokevirtual 68, 3) := by decide +kernel
theorem dL_areAlike_291 : decode cL_areAlike 291 = .ok (.aload_n 1, 1) := by decide +kernel
theorem dL_areAlike_292 : decode cL_areAlike 292 = .ok (.bipush 20, 2) := by decide +kernel
theorem dL_areAlike_294 : decode cL_areAlike 294 = .ok (.invokevirtual 68, 3) := by decide +kernel
theorem dL_areAlike_297 : decode cL_areAlike 297 = .ok (.if_icmp .ne 7, 3) := by decide +kernel
theorem dL_areAlike_300 : decode cL_areAlike 300 = .ok (.iconst 1, 1) := by decide +kernel
theorem dL_areAlike_301 : decode cL_areAlike 301 = .ok (.goto 4, 3) := by decide +kernel
theorem dL_areAlike_304 : decode cL_areAlike 304 = .ok (.iconst 0, 1) := by decide +kernel
theorem dL_areAlike_305 : decode cL_areAlike 305 = .ok (.ireturn, 1) := by decide +kernel
theorem dL_isSound_0 : decode cL_isSound 0 = .ok (.iconst 0, 1) := by decide +kernel
theorem dL_isSound_1 : decode cL_isSound 1 = .ok (.istore_n 2, 1) := by decide +kernel
theorem dL_isSound_2 : decode cL_isSound 2 = .ok (.iconst 0, 1) := by decide +kernel
theorem dL_isSound_3 : decode cL_isSound 3 = .ok (.istore_n 3, 1) := by decide +kernel
theorem dL_isSound_4 : decode cL_isSound 4 = .ok (.iconst 0, 1) := by decide +kernel
theorem dL_isSound_5 : decode cL_isSound 5 = .ok (.istore 4, 2) := by decide +kernel
theorem dL_isSound_7 : decode cL_isSound 7 = .ok (.aload_n 0, 1) := by decide +kernel
theorem dL_isSound_8 : decode cL_isSound 8 = .ok (.bipush 12, 2) := by decide +kernel
theorem dL_isSound_10 : decode cL_isSound 10 = .ok (.invokevirtual 31, 3) := by decide +kernel
theorem dL_isSound_13 : decode cL_isSound 13 = .ok (.aload_n 0, 1) := by decide +kernel
theorem dL_isSound_14 : decode cL_isSound 14 = .ok (.iconst 5, 1) := by decide +kernel
theorem dL_isSound_15 : decode cL_isSound 15 = .ok (.invokevirtual 31, 3) := by decide +kernel
theorem dL_isSound_18 : decode cL_isSound 18 = .ok (.aload_n 0, 1) := by decide +kernel
theorem dL_isSound_19 : decode cL_isSound 19 = .ok (.bipush 13, 2) := by decide +kernel
theorem dL_isSound_21 : decode cL_isSound 21 = .ok (.invokevirtual 31, 3) := by decide +kernel
theorem dL_isSound_24 : decode cL_isSound 24 = .ok (.iadd, 1) := by decide +kernel
theorem dL_isSound_25 : decode cL_isSound 25 = .ok (.aload_n 0, 1) := by decide +kernel
theorem dL_isSound_26 : decode cL_isSound 26 = .ok (.bipush 14, 2) := by decide +kernel
theorem dL_isSound_28 : decode cL_isSound 28 = .ok (.invokevirtual 31, 3) := by decide +kernel
theorem dL_isSound_31 : decode cL_isSound 31 = .ok (.iadd, 1) := by decide +kernel
theorem dL_isSound_32 : decode cL_isSound 32 = .ok (.aload_n 0, 1) := by decide +kernel
theorem dL_isSound_33 : decode cL_isSound 33 = .ok (.bipush 15, 2) := by decide +kernel
theorem dL_isSound_35 : decode cL_isSound 35 = .ok (.invokevirtual 31, 3) := by decide +kernel
theorem dL_isSound_38 : decode cL_isSound 38 = .ok (.iadd, 1) := by decide +kernel
theorem dL_isSound_39 : decode cL_isSound 39 = .ok (.if_icmp .ne 34, 3) := by decide +kernel
theorem dL_isSound_42 : decode cL_isSound 42 = .ok (.aload_n 0, 1) := by decide +kernel
theorem dL_isSound_43 : decode cL_isSound 43 = .ok (.iconst 5, 1) := by decide +kernel
theorem dL_isSound_44 : decode cL_isSound 44 = .ok (.invokevirtual 31, 3) := by decide +kernel
theorem dL_isSound_47 : decode cL_isSound 47 = .ok (.aload_n 0, 1) := by decide +kernel
theorem dL_isSound_48 : decode cL_isSound 48 = .ok (.bipush 6, 2) := by decide +kernel
theorem dL_isSound_50 : decode cL_isSound 50 = .ok (.invokevirtual 31, 3) := by decide +kernel
theorem dL_isSound_53 : decode cL_isSound 53 = .ok (.if_icmp .gt 20, 3) := by decide +kernel
theorem dL_isSound_56 : decode cL_isSound 56 = .ok (.aload_n 0, 1) := by decide +kernel
theorem dL_isSound_57 : decode cL_isSound 57 = .ok (.iconst 2, 1) := by decide +kernel
theorem dL_isSound_58 : decode cL_isSound 58 = .ok (.invokevirtual 31, 3) := by decide +kernel
theorem dL_isSound_61 : decode cL_isSound 61 = .ok (.aload_n 0, 1) := by decide +kernel
theorem dL_isSound_62 : decode cL_isSound 62 = .ok (.iconst 3, 1) := by decide +kernel
theorem dL_isSound_63 : decode cL_isSound 63 = .ok (.invokevirtual 31, 3) := by decide +kernel
theorem dL_isSound_66 : decode cL_isSound 66 = .ok (.if_icmp .ge 7, 3) := by decide +kernel
theorem dL_isSound_69 : decode cL_isSound 69 = .ok (.iconst 1, 1) := by decide +kernel
theorem dL_isSound_70 : decode cL_isSound 70 = .ok (.goto 4, 3) := by decide +kernel
theorem dL_isSound_73 : decode cL_isSound 73 = .ok (.iconst 0, 1) := by decide +kernel
theorem dL_isSound_74 : decode cL_isSound 74 = .ok (.istore 5, 2) := by decide +kernel
theorem dL_isSound_76 : decode cL_isSound 76 = .ok (.iconst 0, 1) := by decide +kernel
theorem dL_isSound_77 : decode cL_isSound 77 = .ok (.istore 6, 2) := by decide +kernel
theorem dL_isSound_79 : decode cL_isSound 79 = .ok (.iload 6, 2) := by decide +kernel
theorem dL_isSound_81 : decode cL_isSound 81 = .ok (.iconst 5, 1) := by decide +kernel
theorem dL_isSound_82 : decode cL_isSound 82 = .ok (.if_icmp .ge 95, 3) := by decide +kernel
theorem dL_isSound_85 : decode cL_isSound 85 = .ok (.iload_n 2, 1) := by decide +kernel
theorem dL_isSound_86 : decode cL_isSound 86 = .ok (.aload_n 0, 1) := by decide +kernel
theorem dL_isSound_87 : decode cL_isSound 87 = .ok (.iload 6, 2) := by decide +kernel
theorem dL_isSound_89 : decode cL_isSound 89 = .ok (.bipush 6, 2) := by decide +kernel
theorem dL_isSound_91 : decode cL_isSound 91 = .ok (.invokevirtual 52, 3) := by decide +kernel
theorem dL_isSound_94 : decode cL_isSound 94 = .ok (.iadd, 1) := by decide +kernel
theorem dL_isSound_95 : decode cL_isSound 95 = .ok (.istore_n 2, 1) := by decide +kernel
theorem dL_isSound_96 : decode cL_isSound 96 = .ok (.iload_n 3, 1) := by decide +kernel
theorem dL_isSound_97 : decode cL_isSound 97 = .ok (.aload_n 0, 1) := by decide +kernel
theorem dL_isSound_98 : decode cL_isSound 98 = .ok (.iload 6, 2) := by decide +kernel
theorem dL_isSound_100 : decode cL_isSound 100 = .ok (.bipush 7, 2) := by decide +kernel
theorem dL_isSound_102 : decode cL_isSound 102 = .ok (.invokevirtual 52, 3) := by decide +kernel
theorem dL_isSound_105 : decode cL_isSound 105 = .ok (.iadd, 1) := by decide +kernel
theorem dL_isSound_106 : decode cL_isSound 106 = .ok (.istore_n 3, 1) := by decide +kernel
theorem dL_isSound_107 : decode cL_isSound 107 = .ok (.iload 5, 2) := by decide +kernel
theorem dL_isSound_109 : decode cL_isSound 109 = .ok (.ifCond .eq 59, 3) := by decide +kernel
theorem dL_isSound_112 : decode cL_isSound 112 = .ok (.aload_n 0, 1) := by decide +kernel
theorem dL_isSound_113 : decode cL_isSound 113 = .ok (.iload 6, 2) := by decide +kernel
theorem dL_isSound_115 : decode cL_isSound 115 = .ok (.iconst 0, 1) := by decide +kernel
theorem dL_isSound_116 : decode cL_isSound 116 = .ok (.invokevirtual 52, 3) := by decide +kernel
theorem dL_isSound_119 : decode cL_isSound 119 = .ok (.ifCond .lt 49, 3) := by decide +kernel
theorem dL_isSound_122 : decode cL_isSound 122 = .ok (.aload_n 0, 1) := by decide +kernel
theorem dL_isSound_123 : decode cL_isSound 123 = .ok (.iload 6, 2) := by decide +kernel
theorem dL_isSound_125 : decode cL_isSound 125 = .ok (.iconst 0, 1) := by decide +kernel
theorem dL_isSound_126 : decode cL_isSound 126 = .ok (.invokevirtual 52, 3) := by decide +kernel
theorem dL_isSound_129 : decode cL_isSound 129 = .ok (.bipush 100, 2) := by decide +kernel
theorem dL_isSound_131 : decode cL_isSound 131 = .ok (.if_icmp .gt 37, 3) := by decide +kernel
theorem dL_isSound_134 : decode cL_isSound 134 = .ok (.aload_n 0, 1) := by decide +kernel
theorem dL_isSound_135 : decode cL_isSound 135 = .ok (.iload 6, 2) := by decide +kernel
theorem dL_isSound_137 : decode cL_isSound 137 = .ok (.iconst 5, 1) := by decide +kernel
theorem dL_isSound_138 : decode cL_isSound 138 = .ok (.invokevirtual 52, 3) := by decide +kernel
theorem dL_isSound_141 : decode cL_isSound 141 = .ok (.ifCond .lt 27, 3) := by decide +kernel
theorem dL_isSound_144 : decode cL_isSound 144 = .ok (.aload_n 0, 1) := by decide +kernel
theorem dL_isSound_145 : decode cL_isSound 145 = .ok (.iload 6, 2) := by decide +kernel
theorem dL_isSound_147 : decode cL_isSound 147 = .ok (.iconst 5, 1) := by decide +kernel
theorem dL_isSound_148 : decode cL_isSound 148 = .ok (.invokevirtual 52, 3) := by decide +kernel
theorem dL_isSound_151 : decode cL_isSound 151 = .ok (.bipush 100, 2) := by decide +kernel
theorem dL_isSound_153 : decode cL_isSound 153 = .ok (.aload_n 0, 1) := by decide +kernel
theorem dL_isSound_154 : decode cL_isSound 154 = .ok (.iload 6, 2) := by decide +kernel
theorem dL_isSound_156 : decode cL_isSound 156 = .ok (.iconst 0, 1) := by decide +kernel
theorem dL_isSound_157 : decode cL_isSound 157 = .ok (.invokevirtual 52, 3) := by decide +kernel
theorem dL_isSound_160 : decode cL_isSound 160 = .ok (.isub, 1) := by decide +kernel
theorem dL_isSound_161 : decode cL_isSound 161 = .ok (.if_icmp .gt 7, 3) := by decide +kernel
theorem dL_isSound_164 : decode cL_isSound 164 = .ok (.iconst 1, 1) := by decide +kernel
theorem dL_isSound_165 : decode cL_isSound 165 = .ok (.goto 4, 3) := by decide +kernel
theorem dL_isSound_168 : decode cL_isSound 168 = .ok (.iconst 0, 1) := by decide +kernel
theorem dL_isSound_169 : decode cL_isSound 169 = .ok (.istore 5, 2) := by decide +kernel
theorem dL_isSound_171 : decode cL_isSound 171 = .ok (.iinc 6 1, 3) := by decide +kernel
theorem dL_isSound_174 : decode cL_isSound 174 = .ok (.goto (-95), 3) := by decide +kernel
theorem dL_isSound_177 : decode cL_isSound 177 = .ok (.iconst 0, 1) := by decide +kernel
theorem dL_isSound_178 : decode cL_isSound 178 = .ok (.istore 6, 2) := by decide +kernel
theorem dL_isSound_180 : decode cL_isSound 180 = .ok (.iload 6, 2) := by decide +kernel
theorem dL_isSound_182 : decode cL_isSound 182 = .ok (.bipush 8, 2) := by decide +kernel
theorem dL_isSound_184 : decode cL_isSound 184 = .ok (.if_icmp .ge 20, 3) := by decide +kernel
theorem dL_isSound_187 : decode cL_isSound 187 = .ok (.iload 4, 2) := by decide +kernel
theorem dL_isSound_189 : decode cL_isSound 189 = .ok (.aload_n 0, 1) := by decide +kernel
theorem dL_isSound_190 : decode cL_isSound 190 = .ok (.iload 6, 2) := by decide +kernel
theorem dL_isSound_192 : decode cL_isSound 192 = .ok (.invokevirtual 58, 3) := by decide +kernel
theorem dL_isSound_195 : decode cL_isSound 195 = .ok (.iadd, 1) := by decide +kernel
theorem dL_isSound_196 : decode cL_isSound 196 = .ok (.istore 4, 2) := by decide +kernel
theorem dL_isSound_198 : decode cL_isSound 198 = .ok (.iinc 6 1, 3) := by decide +kernel
theorem dL_isSound_201 : decode cL_isSound 201 = .ok (.goto (-21), 3) := by decide +kernel
theorem dL_isSound_204 : decode cL_isSound 204 = .ok (.iload 5, 2) := by decide +kernel
theorem dL_isSound_206 : decode cL_isSound 206 = .ok (.ifCond .eq 38, 3) := by decide +kernel
theorem dL_isSound_209 : decode cL_isSound 209 = .ok (.iload_n 2, 1) := by decide +kernel
theorem dL_isSound_210 : decode cL_isSound 210 = .ok (.aload_n 0, 1) := by decide +kernel
theorem dL_isSound_211 : decode cL_isSound 211 = .ok (.bipush 14, 2) := by decide +kernel
theorem dL_isSound_213 : decode cL_isSound 213 = .ok (.invokevirtual 31, 3) := by decide +kernel
theorem dL_isSound_216 : decode cL_isSound 216 = .ok (.if_icmp .ne 28, 3) := by decide +kernel
theorem dL_isSound_219 : decode cL_isSound 219 = .ok (.iload_n 3, 1) := by decide +kernel
theorem dL_isSound_220 : decode cL_isSound 220 = .ok (.aload_n 0, 1) := by decide +kernel
theorem dL_isSound_221 : decode cL_isSound 221 = .ok (.bipush 15, 2) := by decide +kernel
theorem dL_isSound_223 : decode cL_isSound 223 = .ok (.invokevirtual 31, 3) := by decide +kernel
theorem dL_isSound_226 : decode cL_isSound 226 = .ok (.if_icmp .ne 18, 3) := by decide +kernel
theorem dL_isSound_229 : decode cL_isSound 229 = .ok (.iload 4, 2) := by decide +kernel
theorem dL_isSound_231 : decode cL_isSound 231 = .ok (.aload_n 0, 1) := by decide +kernel
theorem dL_isSound_232 : decode cL_isSound 232 = .ok (.bipush 11, 2) := by decide +kernel
theorem dL_isSound_234 : decode cL_isSound 234 = .ok (.invokevirtual 31, 3) := by decide +kernel
theorem dL_isSound_237 : decode cL_isSound 237 = .ok (.if_icmp .ne 7, 3) := by decide +kernel
theorem dL_isSound_240 : decode cL_isSound 240 = .ok (.iconst 1, 1) := by decide +kernel
theorem dL_isSound_241 : decode cL_isSound 241 = .ok (.goto 4, 3) := by decide +kernel
theorem dL_isSound_244 : decode cL_isSound 244 = .ok (.iconst 0, 1) := by decide +kernel
theorem dL_isSound_245 : decode cL_isSound 245 = .ok (.istore 5, 2) := by decide +kernel
theorem dL_isSound_247 : decode cL_isSound 247 = .ok (.bipush 9, 2) := by decide +kernel
theorem dL_isSound_249 : decode cL_isSound 249 = .ok (.istore 6, 2) := by decide +kernel
theorem dL_isSound_251 : decode cL_isSound 251 = .ok (.iload 6, 2) := by decide +kernel
theorem dL_isSound_253 : decode cL_isSound 253 = .ok (.bipush 16, 2) := by decide +kernel
theorem dL_isSound_255 : decode cL_isSound 255 = .ok (.if_icmp .ge 44, 3) := by decide +kernel
theorem dL_isSound_258 : decode cL_isSound 258 = .ok (.iload 5, 2) := by decide +kernel
theorem dL_isSound_260 : decode cL_isSound 260 = .ok (.ifCond .eq 20, 3) := by decide +kernel
theorem dL_isSound_263 : decode cL_isSound 263 = .ok (.aload_n 0, 1) := by decide +kernel
theorem dL_isSound_264 : decode cL_isSound 264 = .ok (.iload 6, 2) := by decide +kernel
theorem dL_isSound_266 : decode cL_isSound 266 = .ok (.invokevirtual 31, 3) := by decide +kernel
theorem dL_isSound_269 : decode cL_isSound 269 = .ok (.aload_n 1, 1) := by decide +kernel
theorem dL_isSound_270 : decode cL_isSound 270 = .ok (.iload 6, 2) := by decide +kernel
theorem dL_isSound_272 : decode cL_isSound 272 = .ok (.iaload, 1) := by decide +kernel
theorem dL_isSound_273 : decode cL_isSound 273 = .ok (.if_icmp .lt 7, 3) := by decide +kernel
theorem dL_isSound_276 : decode cL_isSound 276 = .ok (.iconst 1, 1) := by decide +kernel
theorem dL_isSound_277 : decode cL_isSound 277 = .ok (.goto 4, 3) := by decide +kernel
theorem dL_isSound_280 : decode cL_isSound 280 = .ok (.iconst 0, 1) := by decide +kernel
theorem dL_isSound_281 : decode cL_isSound 281 = .ok (.istore 5, 2) := by decide +kernel
theorem dL_isSound_283 : decode cL_isSound 283 = .ok (.aload_n 1, 1) := by decide +kernel
theorem dL_isSound_284 : decode cL_isSound 284 = .ok (.iload 6, 2) := by decide +kernel
theorem dL_isSound_286 : decode cL_isSound 286 = .ok (.aload_n 0, 1) := by decide +kernel
theorem dL_isSound_287 : decode cL_isSound 287 = .ok (.iload 6, 2) := by decide +kernel
theorem dL_isSound_289 : decode cL_isSound 289 = .ok (.invokevirtual 31, 3) := by decide +kernel
theorem dL_isSound_292 : decode cL_isSound 292 = .ok (.iastore, 1) := by decide +kernel
theorem dL_isSound_293 : decode cL_isSound 293 = .ok (.iinc 6 1, 3) := by decide +kernel
theorem dL_isSound_296 : decode cL_isSound 296 = .ok (.goto (-45), 3) := by decide +kernel
theorem dL_isSound_299 : decode cL_isSound 299 = .ok (.iload 5, 2) := by decide +kernel
theorem dL_isSound_301 : decode cL_isSound 301 = .ok (.ireturn, 1) := by decide +kernel
theorem dL_law_0 : decode cL_law 0 = .ok (.new 16, 3) := by decide +kernel
theorem dL_law_3 : decode cL_law 3 = .ok (.dup, 1) := by decide +kernel
theorem dL_law_4 : decode cL_law 4 = .ok (.invokespecial 71, 3) := by decide +kernel
theorem dL_law_7 : decode cL_law 7 = .ok (.astore_n 1, 1) := by decide +kernel
theorem dL_law_8 : decode cL_law 8 = .ok (.new 16, 3) := by decide +kernel
theorem dL_law_11 : decode cL_law 11 = .ok (.dup, 1) := by decide +kernel
theorem dL_law_12 : decode cL_law 12 = .ok (.invokespecial 71, 3) := by decide +kernel
theorem dL_law_15 : decode cL_law 15 = .ok (.astore_n 2, 1) := by decide +kernel
theorem dL_law_16 : decode cL_law 16 = .ok (.iconst 1, 1) := by decide +kernel
theorem dL_law_17 : decode cL_law 17 = .ok (.aload_n 0, 1) := by decide +kernel
theorem dL_law_18 : decode cL_law 18 = .ok (.iconst 0, 1) := by decide +kernel
theorem dL_law_19 : decode cL_law 19 = .ok (.invokestatic 72, 3) := by decide +kernel
theorem dL_law_22 : decode cL_law 22 = .ok (.bipush 7, 2) := by decide +kernel
theorem dL_law_24 : decode cL_law 24 = .ok (.invokestatic 9, 3) := by decide +kernel
theorem dL_law_27 : decode cL_law 27 = .ok (.iadd, 1) := by decide +kernel
theorem dL_law_28 : decode cL_law 28 = .ok (.istore_n 3, 1) := by decide +kernel
theorem dL_law_29 : decode cL_law 29 = .ok (.bipush 16, 2) := by decide +kernel
theorem dL_law_31 : decode cL_law 31 = .ok (.newarray .int, 2) := by decide +kernel
theorem dL_law_33 : decode cL_law 33 = .ok (.astore 4, 2) := by decide +kernel
theorem dL_law_35 : decode cL_law 35 = .ok (.aload_n 2, 1) := by decide +kernel
theorem dL_law_36 : decode cL_law 36 = .ok (.iload_n 3, 1) := by decide +kernel
theorem dL_law_37 : decode cL_law 37 = .ok (.invokevirtual 42, 3) := by decide +kernel
theorem dL_law_40 : decode cL_law 40 = .ok (.ifCond .ne 7, 3) := by decide +kernel
theorem dL_law_43 : decode cL_law 43 = .ok (.iconst 1, 1) := by decide +kernel
theorem dL_law_44 : decode cL_law 44 = .ok (.goto 4, 3) := by decide +kernel
theorem dL_law_47 : decode cL_law 47 = .ok (.iconst 0, 1) := by decide +kernel
theorem dL_law_48 : decode cL_law 48 = .ok (.istore 5, 2) := by decide +kernel
theorem dL_law_50 : decode cL_law 50 = .ok (.iconst 1, 1) := by decide +kernel
theorem dL_law_51 : decode cL_law 51 = .ok (.istore 6, 2) := by decide +kernel
theorem dL_law_53 : decode cL_law 53 = .ok (.iload 6, 2) := by decide +kernel
theorem dL_law_55 : decode cL_law 55 = .ok (.bipush 44, 2) := by decide +kernel
theorem dL_law_57 : decode cL_law 57 = .ok (.if_icmp .ge 67, 3) := by decide +kernel
theorem dL_law_60 : decode cL_law 60 = .ok (.iload 5, 2) := by decide +kernel
theorem dL_law_62 : decode cL_law 62 = .ok (.ifCond .eq 62, 3) := by decide +kernel
theorem dL_law_65 : decode cL_law 65 = .ok (.aload_n 1, 1) := by decide +kernel
theorem dL_law_66 : decode cL_law 66 = .ok (.aload_n 2, 1) := by decide +kernel
theorem dL_law_67 : decode cL_law 67 = .ok (.iload_n 3, 1) := by decide +kernel
theorem dL_law_68 : decode cL_law 68 = .ok (.aload_n 0, 1) := by decide +kernel
theorem dL_law_69 : decode cL_law 69 = .ok (.iload 6, 2) := by decide +kernel
theorem dL_law_71 : decode cL_law 71 = .ok (.invokestatic 72, 3) := by decide +kernel
theorem dL_law_74 : decode cL_law 74 = .ok (.invokestatic 76, 3) := by decide +kernel
theorem dL_law_77 : decode cL_law 77 = .ok (.ifCond .eq 38, 3) := by decide +kernel
theorem dL_law_80 : decode cL_law 80 = .ok (.aload_n 1, 1) := by decide +kernel
theorem dL_law_81 : decode cL_law 81 = .ok (.aload_n 2, 1) := by decide +kernel
theorem dL_law_82 : decode cL_law 82 = .ok (.iload_n 3, 1) := by decide +kernel
theorem dL_law_83 : decode cL_law 83 = .ok (.invokestatic 80, 3) := by decide +kernel
theorem dL_law_86 : decode cL_law 86 = .ok (.ifCond .eq 29, 3) := by decide +kernel
theorem dL_law_89 : decode cL_law 89 = .ok (.aload_n 1, 1) := by decide +kernel
theorem dL_law_90 : decode cL_law 90 = .ok (.iconst 2, 1) := by decide +kernel
theorem dL_law_91 : decode cL_law 91 = .ok (.invokevirtual 31, 3) := by decide +kernel
theorem dL_law_94 : decode cL_law 94 = .ok (.aload_n 1, 1) := by decide +kernel
theorem dL_law_95 : decode cL_law 95 = .ok (.iconst 3, 1) := by decide +kernel
theorem dL_law_96 : decode cL_law 96 = .ok (.invokevirtual 31, 3) := by decide +kernel
theorem dL_law_99 : decode cL_law 99 = .ok (.if_icmp .ge 12, 3) := by decide +kernel
theorem dL_law_102 : decode cL_law 102 = .ok (.aload_n 1, 1) := by decide +kernel
theorem dL_law_103 : decode cL_law 103 = .ok (.aload 4, 2) := by decide +kernel
theorem dL_law_105 : decode cL_law 105 = .ok (.invokestatic 84, 3) := by decide +kernel
theorem dL_law_108 : decode cL_law 108 = .ok (.ifCond .eq 7, 3) := by decide +kernel
theorem dL_law_111 : decode cL_law 111 = .ok (.iconst 1, 1) := by decide +kernel
theorem dL_law_112 : decode cL_law 112 = .ok (.goto 4, 3) := by decide +kernel
theorem dL_law_115 : decode cL_law 115 = .ok (.iconst 0, 1) := by decide +kernel
theorem dL_law_116 : decode cL_law 116 = .ok (.istore 5, 2) := by decide +kernel
theorem dL_law_118 : decode cL_law 118 = .ok (.iinc 6 1, 3) := by decide +kernel
theorem dL_law_121 : decode cL_law 121 = .ok (.goto (-68), 3) := by decide +kernel
theorem dL_law_124 : decode cL_law 124 = .ok (.aload_n 1, 1) := by decide +kernel
theorem dL_law_125 : decode cL_law 125 = .ok (.iconst 5, 1) := by decide +kernel
theorem dL_law_126 : decode cL_law 126 = .ok (.invokevirtual 31, 3) := by decide +kernel
theorem dL_law_129 : decode cL_law 129 = .ok (.istore 6, 2) := by decide +kernel
theorem dL_law_131 : decode cL_law 131 = .ok (.aload_n 1, 1) := by decide +kernel
theorem dL_law_132 : decode cL_law 132 = .ok (.bipush 9, 2) := by decide +kernel
theorem dL_law_134 : decode cL_law 134 = .ok (.invokevirtual 31, 3) := by decide +kernel
theorem dL_law_137 : decode cL_law 137 = .ok (.istore 7, 2) := by decide +kernel
theorem dL_law_139 : decode cL_law 139 = .ok (.aload_n 1, 1) := by decide +kernel
theorem dL_law_140 : decode cL_law 140 = .ok (.invokevirtual 88, 3) := by decide +kernel
theorem dL_law_143 : decode cL_law 143 = .ok (.istore 8, 2) := by decide +kernel
theorem dL_law_145 : decode cL_law 145 = .ok (.iload 5, 2) := by decide +kernel
theorem dL_law_147 : decode cL_law 147 = .ok (.ifCond .eq 67, 3) := by decide +kernel
theorem dL_law_150 : decode cL_law 150 = .ok (.aload_n 1, 1) := by decide +kernel
theorem dL_law_151 : decode cL_law 151 = .ok (.bipush 7, 2) := by decide +kernel
theorem dL_law_153 : decode cL_law 153 = .ok (.invokevirtual 45, 3) := by decide +kernel
theorem dL_law_156 : decode cL_law 156 = .ok (.ifCond .lt 58, 3) := by decide +kernel
theorem dL_law_159 : decode cL_law 159 = .ok (.aload_n 1, 1) := by decide +kernel
theorem dL_law_160 : decode cL_law 160 = .ok (.bipush 9, 2) := by decide +kernel
theorem dL_law_162 : decode cL_law 162 = .ok (.invokevirtual 31, 3) := by decide +kernel
theorem dL_law_165 : decode cL_law 165 = .ok (.iload 7, 2) := by decide +kernel
theorem dL_law_167 : decode cL_law 167 = .ok (.bipush 7, 2) := by decide +kernel
theorem dL_law_169 : decode cL_law 169 = .ok (.iadd, 1) := by decide +kernel
theorem dL_law_170 : decode cL_law 170 = .ok (.if_icmp .ne 44, 3) := by decide +kernel
theorem dL_law_173 : decode cL_law 173 = .ok (.aload_n 1, 1) := by decide +kernel
theorem dL_law_174 : decode cL_law 174 = .ok (.invokevirtual 92, 3) := by decide +kernel
theorem dL_law_177 : decode cL_law 177 = .ok (.ifCond .lt 37, 3) := by decide +kernel
theorem dL_law_180 : decode cL_law 180 = .ok (.aload_n 1, 1) := by decide +kernel
theorem dL_law_181 : decode cL_law 181 = .ok (.iconst 5, 1) := by decide +kernel
theorem dL_law_182 : decode cL_law 182 = .ok (.invokevirtual 31, 3) := by decide +kernel
theorem dL_law_185 : decode cL_law 185 = .ok (.iload 6, 2) := by decide +kernel
theorem dL_law_187 : decode cL_law 187 = .ok (.if_icmp .ne 27, 3) := by decide +kernel
theorem dL_law_190 : decode cL_law 190 = .ok (.aload_n 1, 1) := by decide +kernel
theorem dL_law_191 : decode cL_law 191 = .ok (.bipush 9, 2) := by decide +kernel
theorem dL_law_193 : decode cL_law 193 = .ok (.invokevirtual 31, 3) := by decide +kernel
theorem dL_law_196 : decode cL_law 196 = .ok (.iload 7, 2) := by decide +kernel
theorem dL_law_198 : decode cL_law 198 = .ok (.if_icmp .ne 16, 3) := by decide +kernel
theorem dL_law_201 : decode cL_law 201 = .ok (.aload_n 1, 1) := by decide +kernel
theorem dL_law_202 : decode cL_law 202 = .ok (.invokevirtual 88, 3) := by decide +kernel
theorem dL_law_205 : decode cL_law 205 = .ok (.iload 8, 2) := by decide +kernel
theorem dL_law_207 : decode cL_law 207 = .ok (.if_icmp .ne 7, 3) := by decide +kernel
theorem dL_law_210 : decode cL_law 210 = .ok (.iconst 1, 1) := by decide +kernel
theorem dL_law_211 : decode cL_law 211 = .ok (.goto 4, 3) := by decide +kernel
theorem dL_law_214 : decode cL_law 214 = .ok (.iconst 0, 1) := by decide +kernel
theorem dL_law_215 : decode cL_law 215 = .ok (.istore 5, 2) := by decide +kernel
theorem dL_law_217 : decode cL_law 217 = .ok (.aload_n 1, 1) := by decide +kernel
theorem dL_law_218 : decode cL_law 218 = .ok (.bipush 10, 2) := by decide +kernel
theorem dL_law_220 : decode cL_law 220 = .ok (.invokevirtual 31, 3) := by decide +kernel
theorem dL_law_223 : decode cL_law 223 = .ok (.istore 9, 2) := by decide +kernel
theorem dL_law_225 : decode cL_law 225 = .ok (.iload 5, 2) := by decide +kernel
theorem dL_law_227 : decode cL_law 227 = .ok (.ifCond .eq 59, 3) := by decide +kernel
theorem dL_law_230 : decode cL_law 230 = .ok (.iload 8, 2) := by decide +kernel
theorem dL_law_232 : decode cL_law 232 = .ok (.ifCond .lt 50, 3) := by decide +kernel
theorem dL_law_235 : decode cL_law 235 = .ok (.iload 8, 2) := by decide +kernel
theorem dL_law_237 : decode cL_law 237 = .ok (.sipush 500, 3) := by decide +kernel
theorem dL_law_240 : decode cL_law 240 = .ok (.if_icmp .gt 42, 3) := by decide +kernel
theorem dL_law_243 : decode cL_law 243 = .ok (.aload_n 1, 1) := by decide +kernel
theorem dL_law_244 : decode cL_law 244 = .ok (.iload 8, 2) := by decide +kernel
theorem dL_law_246 : decode cL_law 246 = .ok (.invokevirtual 45, 3) := by decide +kernel
theorem dL_law_249 : decode cL_law 249 = .ok (.iconst 1, 1) := by decide +kernel
theorem dL_law_250 : decode cL_law 250 = .ok (.if_icmp .ne 36, 3) := by decide +kernel
theorem dL_law_253 : decode cL_law 253 = .ok (.aload_n 1, 1) := by decide +kernel
theorem dL_law_254 : decode cL_law 254 = .ok (.bipush 10, 2) := by decide +kernel
theorem dL_law_256 : decode cL_law 256 = .ok (.invokevirtual 31, 3) := by decide +kernel
theorem dL_law_259 : decode cL_law 259 = .ok (.iload 9, 2) := by decide +kernel
theorem dL_law_261 : decode cL_law 261 = .ok (.iconst 1, 1) := by decide +kernel
theorem dL_law_262 : decode cL_law 262 = .ok (.iadd, 1) := by decide +kernel
theorem dL_law_263 : decode cL_law 263 = .ok (.if_icmp .ne 23, 3) := by decide +kernel
theorem dL_law_266 : decode cL_law 266 = .ok (.aload_n 1, 1) := by decide +kernel
theorem dL_law_267 : decode cL_law 267 = .ok (.iconst 1, 1) := by decide +kernel
theorem dL_law_268 : decode cL_law 268 = .ok (.invokevirtual 31, 3) := by decide +kernel
theorem dL_law_271 : decode cL_law 271 = .ok (.ifCond .ne 15, 3) := by decide +kernel
theorem dL_law_274 : decode cL_law 274 = .ok (.aload_n 1, 1) := by decide +kernel
theorem dL_law_275 : decode cL_law 275 = .ok (.iconst 2, 1) := by decide +kernel
theorem dL_law_276 : decode cL_law 276 = .ok (.invokevirtual 31, 3) := by decide +kernel
theorem dL_law_279 : decode cL_law 279 = .ok (.ifCond .ne 7, 3) := by decide +kernel
theorem dL_law_282 : decode cL_law 282 = .ok (.iconst 1, 1) := by decide +kernel
theorem dL_law_283 : decode cL_law 283 = .ok (.goto 4, 3) := by decide +kernel
theorem dL_law_286 : decode cL_law 286 = .ok (.iconst 0, 1) := by decide +kernel
theorem dL_law_287 : decode cL_law 287 = .ok (.ireturn, 1) := by decide +kernel
abbrev vwCl : List vw_C := [(RX0, TX0, 7), (RX1, TX1, 2), (RX2, TX2, 6), (RX3, TX3, 4), (RX4, TX4, 3), (RX5, TX5, 13), (RX6, TX6, 6), (RX7, TX7, 5)]
