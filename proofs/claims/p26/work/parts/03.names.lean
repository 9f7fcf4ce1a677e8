def RX0 : String := "PlateArm$1"
def TX0 : u_T := fun k => match k with
  | _ => ("", "", "", false)
def tyX0 : Nat → FieldType := fun k => match k with
  | _ => .int
abbrev wsX00 : List Cond := u_ws RX0 TX0 0
theorem nmX0 : ∀ a, a < 0 → ∀ b, b < 0 → a ≠ b → (TX0 a).2.1 ≠ (TX0 b).2.1 := by decide +kernel
theorem tyX0_ok : ∀ k, k < 0 → parseFieldDescriptor (TX0 k).2.2.1 = some (tyX0 k) := by decide +kernel
def RX1 : String := "PlateArm$Arm"
def TX1 : u_T := fun k => match k with
  | 0 => ("PlateArm$Arm", "track", "I", false)
  | 1 => ("PlateArm$Arm", "direction", "I", false)
  | 2 => ("PlateArm$Arm", "heat", "I", false)
  | 3 => ("PlateArm$Arm", "rests", "Z", false)
  | _ => ("PlateArm$Arm", "sweep", "I", false)
def tyX1 : Nat → FieldType := fun k => match k with
  | 0 => .int
  | 1 => .int
  | 2 => .int
  | 3 => .boolean
  | _ => .int
abbrev wsX10 : List Cond := u_ws RX1 TX1 5
theorem nmX1 : ∀ a, a < 5 → ∀ b, b < 5 → a ≠ b → (TX1 a).2.1 ≠ (TX1 b).2.1 := by decide +kernel
theorem tyX1_ok : ∀ k, k < 5 → parseFieldDescriptor (TX1 k).2.2.1 = some (tyX1 k) := by decide +kernel
abbrev cX1_init : ByteArray := prog_3_method_1_code
def yX1_init : MethodName := ⟨RX1, "<init>", "()V"⟩
abbrev cX1_opposite : ByteArray := prog_3_method_2_code
def yX1_opposite : MethodName := ⟨RX1, "opposite", "(I)I"⟩
abbrev cX1_reset : ByteArray := prog_3_method_3_code
def yX1_reset : MethodName := ⟨RX1, "reset", "()V"⟩
abbrev cX1_copyFrom : ByteArray := prog_3_method_4_code
def yX1_copyFrom : MethodName := ⟨RX1, "copyFrom", "(LPlateArm$Arm;)V"⟩
abbrev cX1_liesFarther : ByteArray := prog_3_method_5_code
def yX1_liesFarther : MethodName := ⟨RX1, "liesFarther", "(I)Z"⟩
abbrev cX1_step : ByteArray := prog_3_method_6_code
def yX1_step : MethodName := ⟨RX1, "step", "()V"⟩
abbrev cX1_cool : ByteArray := prog_3_method_7_code
def yX1_cool : MethodName := ⟨RX1, "cool", "(I)V"⟩
def RX2 : String := "PlateArm$CommandScan"
def TX2 : u_T := fun k => match k with
  | 0 => ("PlateArm$CommandScan", "word", "LPlateArm$Word;", false)
  | 1 => ("PlateArm$CommandScan", "numbers", "[I", true)
  | 2 => ("PlateArm$CommandScan", "place", "I", false)
  | 3 => ("PlateArm$CommandScan", "wordStart", "I", false)
  | 4 => ("PlateArm$CommandScan", "numberCount", "I", false)
  | _ => ("PlateArm$CommandScan", "digits", "I", false)
def tyX2 : Nat → FieldType := fun k => match k with
  | 0 => .object "PlateArm$Word"
  | 1 => .array .int
  | 2 => .int
  | 3 => .int
  | 4 => .int
  | _ => .int
abbrev wsX20 : List Cond := u_ws RX2 TX2 6
theorem nmX2 : ∀ a, a < 6 → ∀ b, b < 6 → a ≠ b → (TX2 a).2.1 ≠ (TX2 b).2.1 := by decide +kernel
theorem tyX2_ok : ∀ k, k < 6 → parseFieldDescriptor (TX2 k).2.2.1 = some (tyX2 k) := by decide +kernel
abbrev cX2_init : ByteArray := prog_4_method_1_code
def yX2_init : MethodName := ⟨RX2, "<init>", "()V"⟩
def RX3 : String := "PlateArm$CommandText"
def TX3 : u_T := fun k => match k with
  | 0 => ("PlateArm$CommandText", "length", "I", false)
  | _ => ("PlateArm$CommandText", "bytes", "[B", true)
def tyX3 : Nat → FieldType := fun k => match k with
  | 0 => .int
  | _ => .array .byte
abbrev wsX30 : List Cond := u_ws RX3 TX3 2
theorem nmX3 : ∀ a, a < 2 → ∀ b, b < 2 → a ≠ b → (TX3 a).2.1 ≠ (TX3 b).2.1 := by decide +kernel
theorem tyX3_ok : ∀ k, k < 2 → parseFieldDescriptor (TX3 k).2.2.1 = some (tyX3 k) := by decide +kernel
abbrev cX3_init : ByteArray := prog_5_method_1_code
def yX3_init : MethodName := ⟨RX3, "<init>", "()V"⟩
def RX4 : String := "PlateArm$Log"
def TX4 : u_T := fun k => match k with
  | 0 => ("PlateArm$Log", "written", "I", false)
  | _ => ("PlateArm$Log", "cells", "[I", true)
def tyX4 : Nat → FieldType := fun k => match k with
  | 0 => .int
  | _ => .array .int
abbrev wsX40 : List Cond := u_ws RX4 TX4 2
theorem nmX4 : ∀ a, a < 2 → ∀ b, b < 2 → a ≠ b → (TX4 a).2.1 ≠ (TX4 b).2.1 := by decide +kernel
theorem tyX4_ok : ∀ k, k < 2 → parseFieldDescriptor (TX4 k).2.2.1 = some (tyX4 k) := by decide +kernel
abbrev cX4_init : ByteArray := prog_6_method_1_code
def yX4_init : MethodName := ⟨RX4, "<init>", "()V"⟩
abbrev cX4_reset : ByteArray := prog_6_method_2_code
def yX4_reset : MethodName := ⟨RX4, "reset", "()V"⟩
abbrev cX4_copyFrom : ByteArray := prog_6_method_3_code
def yX4_copyFrom : MethodName := ⟨RX4, "copyFrom", "(LPlateArm$Log;)V"⟩
abbrev cX4_kept : ByteArray := prog_6_method_4_code
def yX4_kept : MethodName := ⟨RX4, "kept", "()I"⟩
abbrev cX4_write : ByteArray := prog_6_method_5_code
def yX4_write : MethodName := ⟨RX4, "write", "(IIIIZ)V"⟩
abbrev cX4_valueOf : ByteArray := prog_6_method_6_code
def yX4_valueOf : MethodName := ⟨RX4, "valueOf", "(II)I"⟩
def RX5 : String := "PlateArm$Requests"
def TX5 : u_T := fun k => match k with
  | 0 => ("PlateArm$Requests", "count", "I", false)
  | 1 => ("PlateArm$Requests", "told", "I", false)
  | 2 => ("PlateArm$Requests", "numbers", "[I", true)
  | 3 => ("PlateArm$Requests", "tracks", "[I", true)
  | 4 => ("PlateArm$Requests", "sectors", "[I", true)
  | 5 => ("PlateArm$Requests", "deadlines", "[I", true)
  | _ => ("PlateArm$Requests", "toldIn", "[I", true)
def tyX5 : Nat → FieldType := fun k => match k with
  | 0 => .int
  | 1 => .int
  | 2 => .array .int
  | 3 => .array .int
  | 4 => .array .int
  | 5 => .array .int
  | _ => .array .int
abbrev wsX50 : List Cond := u_ws RX5 TX5 7
theorem nmX5 : ∀ a, a < 7 → ∀ b, b < 7 → a ≠ b → (TX5 a).2.1 ≠ (TX5 b).2.1 := by decide +kernel
theorem tyX5_ok : ∀ k, k < 7 → parseFieldDescriptor (TX5 k).2.2.1 = some (tyX5 k) := by decide +kernel
abbrev cX5_init : ByteArray := prog_7_method_1_code
def yX5_init : MethodName := ⟨RX5, "<init>", "()V"⟩
abbrev cX5_reset : ByteArray := prog_7_method_2_code
def yX5_reset : MethodName := ⟨RX5, "reset", "()V"⟩
abbrev cX5_copyFrom : ByteArray := prog_7_method_3_code
def yX5_copyFrom : MethodName := ⟨RX5, "copyFrom", "(LPlateArm$Requests;)V"⟩
abbrev cX5_isFull : ByteArray := prog_7_method_4_code
def yX5_isFull : MethodName := ⟨RX5, "isFull", "()Z"⟩
abbrev cX5_add : ByteArray := prog_7_method_5_code
def yX5_add : MethodName := ⟨RX5, "add", "(IIII)I"⟩
abbrev cX5_indexOf : ByteArray := prog_7_method_6_code
def yX5_indexOf : MethodName := ⟨RX5, "indexOf", "(I)I"⟩
abbrev cX5_move : ByteArray := prog_7_method_7_code
def yX5_move : MethodName := ⟨RX5, "move", "(II)V"⟩
abbrev cX5_removeAt : ByteArray := prog_7_method_8_code
def yX5_removeAt : MethodName := ⟨RX5, "removeAt", "(I)V"⟩
def RX6 : String := "PlateArm$State"
def TX6 : u_T := fun k => match k with
  | 0 => ("PlateArm$State", "tracks", "I", false)
  | 1 => ("PlateArm$State", "sectors", "I", false)
  | 2 => ("PlateArm$State", "tick", "I", false)
  | 3 => ("PlateArm$State", "settings", "[I", true)
  | 4 => ("PlateArm$State", "arm", "LPlateArm$Arm;", true)
  | 5 => ("PlateArm$State", "requests", "LPlateArm$Requests;", true)
  | 6 => ("PlateArm$State", "log", "LPlateArm$Log;", true)
  | _ => ("PlateArm$State", "tally", "LPlateArm$Tally;", true)
def tyX6 : Nat → FieldType := fun k => match k with
  | 0 => .int
  | 1 => .int
  | 2 => .int
  | 3 => .array .int
  | 4 => .object "PlateArm$Arm"
  | 5 => .object "PlateArm$Requests"
  | 6 => .object "PlateArm$Log"
  | _ => .object "PlateArm$Tally"
abbrev wsX60 : List Cond := u_ws RX6 TX6 8
theorem nmX6 : ∀ a, a < 8 → ∀ b, b < 8 → a ≠ b → (TX6 a).2.1 ≠ (TX6 b).2.1 := by decide +kernel
theorem tyX6_ok : ∀ k, k < 8 → parseFieldDescriptor (TX6 k).2.2.1 = some (tyX6 k) := by decide +kernel
abbrev cX6_init : ByteArray := prog_8_method_1_code
def yX6_init : MethodName := ⟨RX6, "<init>", "()V"⟩
abbrev cX6_putIn : ByteArray := prog_8_method_2_code
def yX6_putIn : MethodName := ⟨RX6, "putIn", "(II)V"⟩
abbrev cX6_copyFrom : ByteArray := prog_8_method_3_code
def yX6_copyFrom : MethodName := ⟨RX6, "copyFrom", "(LPlateArm$State;)V"⟩
abbrev cX6_sectorUnderArm : ByteArray := prog_8_method_4_code
def yX6_sectorUnderArm : MethodName := ⟨RX6, "sectorUnderArm", "()I"⟩
abbrev cX6_passTicks : ByteArray := prog_8_method_5_code
def yX6_passTicks : MethodName := ⟨RX6, "passTicks", "(I)V"⟩
abbrev cX6_passUntilEmpty : ByteArray := prog_8_method_6_code
def yX6_passUntilEmpty : MethodName := ⟨RX6, "passUntilEmpty", "()I"⟩
abbrev cX6_beginTick : ByteArray := prog_8_method_10_code
def yX6_beginTick : MethodName := ⟨RX6, "beginTick", "()V"⟩
abbrev cX6_endTick : ByteArray := prog_8_method_11_code
def yX6_endTick : MethodName := ⟨RX6, "endTick", "()V"⟩
abbrev cX6_lowest : ByteArray := prog_8_method_12_code
def yX6_lowest : MethodName := ⟨RX6, "lowest", "(II)I"⟩
abbrev cX6_rankOf : ByteArray := prog_8_method_13_code
def yX6_rankOf : MethodName := ⟨RX6, "rankOf", "(III)I"⟩
abbrev cX6_start : ByteArray := prog_8_method_14_code
def yX6_start : MethodName := ⟨RX6, "start", "(I)V"⟩
abbrev cX6_moveOn : ByteArray := prog_8_method_15_code
def yX6_moveOn : MethodName := ⟨RX6, "moveOn", "(I)V"⟩
abbrev cX6_readUnderArm : ByteArray := prog_8_method_16_code
def yX6_readUnderArm : MethodName := ⟨RX6, "readUnderArm", "()V"⟩
abbrev cX6_giveUp : ByteArray := prog_8_method_17_code
def yX6_giveUp : MethodName := ⟨RX6, "giveUp", "()V"⟩
def RX7 : String := "PlateArm$Tally"
def TX7 : u_T := fun k => match k with
  | 0 => ("PlateArm$Tally", "late", "I", false)
  | 1 => ("PlateArm$Tally", "givenUp", "I", false)
  | 2 => ("PlateArm$Tally", "steps", "I", false)
  | 3 => ("PlateArm$Tally", "starts", "I", false)
  | 4 => ("PlateArm$Tally", "brakings", "I", false)
  | 5 => ("PlateArm$Tally", "restedTicks", "I", false)
  | _ => ("PlateArm$Tally", "greatestHeat", "I", false)
def tyX7 : Nat → FieldType := fun k => match k with
  | 0 => .int
  | 1 => .int
  | 2 => .int
  | 3 => .int
  | 4 => .int
  | 5 => .int
  | _ => .int
abbrev wsX70 : List Cond := u_ws RX7 TX7 7
theorem nmX7 : ∀ a, a < 7 → ∀ b, b < 7 → a ≠ b → (TX7 a).2.1 ≠ (TX7 b).2.1 := by decide +kernel
theorem tyX7_ok : ∀ k, k < 7 → parseFieldDescriptor (TX7 k).2.2.1 = some (tyX7 k) := by decide +kernel
abbrev cX7_init : ByteArray := prog_9_method_1_code
def yX7_init : MethodName := ⟨RX7, "<init>", "()V"⟩
abbrev cX7_reset : ByteArray := prog_9_method_2_code
def yX7_reset : MethodName := ⟨RX7, "reset", "()V"⟩
abbrev cX7_copyFrom : ByteArray := prog_9_method_3_code
def yX7_copyFrom : MethodName := ⟨RX7, "copyFrom", "(LPlateArm$Tally;)V"⟩
def RX8 : String := "PlateArm$Word"
def TX8 : u_T := fun k => match k with
  | _ => ("", "", "", false)
def tyX8 : Nat → FieldType := fun k => match k with
  | _ => .int
abbrev wsX80 : List Cond := u_ws RX8 TX8 0
theorem nmX8 : ∀ a, a < 0 → ∀ b, b < 0 → a ≠ b → (TX8 a).2.1 ≠ (TX8 b).2.1 := by decide +kernel
theorem tyX8_ok : ∀ k, k < 0 → parseFieldDescriptor (TX8 k).2.2.1 = some (tyX8 k) := by decide +kernel
def RX9 : String := "PlateArm"
def TX9 : u_T := fun k => match k with
  | 0 => ("PlateArm", "state", "LPlateArm$State;", true)
  | 1 => ("PlateArm", "trial", "LPlateArm$State;", true)
  | 2 => ("PlateArm", "saved", "[LPlateArm$State;", true)
  | 3 => ("PlateArm", "savedCount", "I", false)
  | 4 => ("PlateArm", "forecasts", "[[I", true)
  | 5 => ("PlateArm", "text", "LPlateArm$CommandText;", true)
  | _ => ("PlateArm", "scan", "LPlateArm$CommandScan;", true)
def tyX9 : Nat → FieldType := fun k => match k with
  | 0 => .object "PlateArm$State"
  | 1 => .object "PlateArm$State"
  | 2 => .array (.object "PlateArm$State")
  | 3 => .int
  | 4 => .array (.array .int)
  | 5 => .object "PlateArm$CommandText"
  | _ => .object "PlateArm$CommandScan"
abbrev wsX90 : List Cond := u_ws RX9 TX9 7
theorem nmX9 : ∀ a, a < 7 → ∀ b, b < 7 → a ≠ b → (TX9 a).2.1 ≠ (TX9 b).2.1 := by decide +kernel
theorem tyX9_ok : ∀ k, k < 7 → parseFieldDescriptor (TX9 k).2.2.1 = some (tyX9 k) := by decide +kernel
abbrev cX9_init : ByteArray := prog_1_method_1_code
def yX9_init : MethodName := ⟨RX9, "<init>", "()V"⟩
abbrev cX9_plate : ByteArray := prog_1_method_2_code
def yX9_plate : MethodName := ⟨RX9, "plate", "(II)I"⟩
abbrev cX9_request : ByteArray := prog_1_method_3_code
def yX9_request : MethodName := ⟨RX9, "request", "(III)I"⟩
abbrev cX9_cancel : ByteArray := prog_1_method_4_code
def yX9_cancel : MethodName := ⟨RX9, "cancel", "(I)I"⟩
abbrev cX9_set : ByteArray := prog_1_method_5_code
def yX9_set : MethodName := ⟨RX9, "set", "(II)I"⟩
abbrev cX9_pass : ByteArray := prog_1_method_6_code
def yX9_pass : MethodName := ⟨RX9, "pass", "(I)I"⟩
abbrev cX9_finish : ByteArray := prog_1_method_7_code
def yX9_finish : MethodName := ⟨RX9, "finish", "()I"⟩
abbrev cX9_requestOf : ByteArray := prog_1_method_8_code
def yX9_requestOf : MethodName := ⟨RX9, "requestOf", "(II)I"⟩
abbrev cX9_requestAt : ByteArray := prog_1_method_9_code
def yX9_requestAt : MethodName := ⟨RX9, "requestAt", "(I)I"⟩
abbrev cX9_logged : ByteArray := prog_1_method_10_code
def yX9_logged : MethodName := ⟨RX9, "logged", "(II)I"⟩
abbrev cX9_arm : ByteArray := prog_1_method_11_code
def yX9_arm : MethodName := ⟨RX9, "arm", "(I)I"⟩
abbrev cX9_whole : ByteArray := prog_1_method_12_code
def yX9_whole : MethodName := ⟨RX9, "whole", "(I)I"⟩
abbrev cX9_plateFits : ByteArray := prog_1_method_28_code
def yX9_plateFits : MethodName := ⟨RX9, "plateFits", "(II)Z"⟩
abbrev cX9_requestFits : ByteArray := prog_1_method_29_code
def yX9_requestFits : MethodName := ⟨RX9, "requestFits", "(III)Z"⟩
abbrev cX9_settingFits : ByteArray := prog_1_method_30_code
def yX9_settingFits : MethodName := ⟨RX9, "settingFits", "(II)Z"⟩
abbrev cX9_ticksFit : ByteArray := prog_1_method_31_code
def yX9_ticksFit : MethodName := ⟨RX9, "ticksFit", "(I)Z"⟩
abbrev cX9_timeIsLeft : ByteArray := prog_1_method_32_code
def yX9_timeIsLeft : MethodName := ⟨RX9, "timeIsLeft", "(I)Z"⟩
abbrev cX9_requestValue : ByteArray := prog_1_method_34_code
def yX9_requestValue : MethodName := ⟨RX9, "requestValue", "(II)I"⟩
abbrev cX9_save : ByteArray := prog_1_method_38_code
def yX9_save : MethodName := ⟨RX9, "save", "()V"⟩
abbrev cX9_dropOldest : ByteArray := prog_1_method_39_code
def yX9_dropOldest : MethodName := ⟨RX9, "dropOldest", "()V"⟩
def RX10 : String := "PlateArmModel"
def TX10 : u_T := fun k => match k with
  | _ => ("", "", "", false)
def tyX10 : Nat → FieldType := fun k => match k with
  | _ => .int
abbrev wsX100 : List Cond := u_ws RX10 TX10 0
theorem nmX10 : ∀ a, a < 0 → ∀ b, b < 0 → a ≠ b → (TX10 a).2.1 ≠ (TX10 b).2.1 := by decide +kernel
theorem tyX10_ok : ∀ k, k < 0 → parseFieldDescriptor (TX10 k).2.2.1 = some (tyX10 k) := by decide +kernel
def RJx29ce0 : String := "java/lang/Enum"
def TJx29ce0 : u_T := fun k => match k with
  | _ => ("", "", "", false)
def tyJx29ce0 : Nat → FieldType := fun k => match k with
  | _ => .int
abbrev wsJx29ce00 : List Cond := u_ws RJx29ce0 TJx29ce0 0
theorem nmJx29ce0 : ∀ a, a < 0 → ∀ b, b < 0 → a ≠ b → (TJx29ce0 a).2.1 ≠ (TJx29ce0 b).2.1 := by decide +kernel
theorem tyJx29ce0_ok : ∀ k, k < 0 → parseFieldDescriptor (TJx29ce0 k).2.2.1 = some (tyJx29ce0 k) := by decide +kernel
def RJ9 : String := "java/lang/Math"
def TJ9 : u_T := fun k => match k with
  | _ => ("", "", "", false)
def tyJ9 : Nat → FieldType := fun k => match k with
  | _ => .int
abbrev wsJ90 : List Cond := u_ws RJ9 TJ9 0
theorem nmJ9 : ∀ a, a < 0 → ∀ b, b < 0 → a ≠ b → (TJ9 a).2.1 ≠ (TJ9 b).2.1 := by decide +kernel
theorem tyJ9_ok : ∀ k, k < 0 → parseFieldDescriptor (TJ9 k).2.2.1 = some (tyJ9 k) := by decide +kernel
abbrev cJ9_abs_0f7a4 : ByteArray := prog_18_method_59_code
def yJ9_abs_0f7a4 : MethodName := ⟨RJ9, "abs", "(I)I"⟩
abbrev cJ9_max_7cf53 : ByteArray := prog_18_method_65_code
def yJ9_max_7cf53 : MethodName := ⟨RJ9, "max", "(II)I"⟩
abbrev cJ9_min_7cf53 : ByteArray := prog_18_method_69_code
def yJ9_min_7cf53 : MethodName := ⟨RJ9, "min", "(II)I"⟩
def RJ10 : String := "java/lang/System"
def TJ10 : u_T := fun k => match k with
  | _ => ("", "", "", false)
def tyJ10 : Nat → FieldType := fun k => match k with
  | _ => .int
abbrev wsJ100 : List Cond := u_ws RJ10 TJ10 0
theorem nmJ10 : ∀ a, a < 0 → ∀ b, b < 0 → a ≠ b → (TJ10 a).2.1 ≠ (TJ10 b).2.1 := by decide +kernel
theorem tyJ10_ok : ∀ k, k < 0 → parseFieldDescriptor (TJ10 k).2.2.1 = some (tyJ10 k) := by decide +kernel
def RL : String := "PlateArmLaw"
abbrev cL_cell : ByteArray := method_2_code
def yL_cell : MethodName := ⟨RL, "cell", "([II)I"⟩
abbrev cL_low : ByteArray := method_3_code
def yL_low : MethodName := ⟨RL, "low", "(II)I"⟩
abbrev cL_plates : ByteArray := method_4_code
def yL_plates : MethodName := ⟨RL, "plates", "(LPlateArm;II)I"⟩
abbrev cL_requests : ByteArray := method_5_code
def yL_requests : MethodName := ⟨RL, "requests", "(LPlateArm;III)I"⟩
abbrev cL_cancels : ByteArray := method_6_code
def yL_cancels : MethodName := ⟨RL, "cancels", "(LPlateArm;I)I"⟩
abbrev cL_sets : ByteArray := method_7_code
def yL_sets : MethodName := ⟨RL, "sets", "(LPlateArm;II)I"⟩
abbrev cL_passes : ByteArray := method_8_code
def yL_passes : MethodName := ⟨RL, "passes", "(LPlateArm;I)I"⟩
abbrev cL_finishes : ByteArray := method_9_code
def yL_finishes : MethodName := ⟨RL, "finishes", "(LPlateArm;)I"⟩
abbrev cL_size : ByteArray := method_10_code
def yL_size : MethodName := ⟨RL, "size", "(I)I"⟩
abbrev cL_target : ByteArray := method_11_code
def yL_target : MethodName := ⟨RL, "target", "([I[II)I"⟩
abbrev cL_gone : ByteArray := method_12_code
def yL_gone : MethodName := ⟨RL, "gone", "([I[II)V"⟩
abbrev cL_tick : ByteArray := method_13_code
def yL_tick : MethodName := ⟨RL, "tick", "([I[I[II)Z"⟩
abbrev cL_finish : ByteArray := method_14_code
def yL_finish : MethodName := ⟨RL, "finish", "([I[I[I)I"⟩
abbrev cL_place : ByteArray := method_15_code
def yL_place : MethodName := ⟨RL, "place", "([I[II)I"⟩
abbrev cL_acts : ByteArray := method_16_code
def yL_acts : MethodName := ⟨RL, "acts", "(LPlateArm;[I[I[II)Z"⟩
abbrev cL_requestOf : ByteArray := method_17_code
def yL_requestOf : MethodName := ⟨RL, "requestOf", "(LPlateArm;II)I"⟩
abbrev cL_requestAt : ByteArray := method_18_code
def yL_requestAt : MethodName := ⟨RL, "requestAt", "(LPlateArm;I)I"⟩
abbrev cL_loggedOf : ByteArray := method_19_code
def yL_loggedOf : MethodName := ⟨RL, "loggedOf", "(LPlateArm;II)I"⟩
abbrev cL_armOf : ByteArray := method_20_code
def yL_armOf : MethodName := ⟨RL, "armOf", "(LPlateArm;I)I"⟩
abbrev cL_wholeOf : ByteArray := method_21_code
def yL_wholeOf : MethodName := ⟨RL, "wholeOf", "(LPlateArm;I)I"⟩
abbrev cL_isSo : ByteArray := method_22_code
def yL_isSo : MethodName := ⟨RL, "isSo", "(LPlateArm;[I[I[I)Z"⟩
abbrev cL_law : ByteArray := code
def yL_law : MethodName := ⟨RL, "law", "([I)Z"⟩
abbrev vwCl : List vw_C := [(RX1, TX1, 5), (RX2, TX2, 6), (RX3, TX3, 2), (RX4, TX4, 2), (RX5, TX5, 7), (RX6, TX6, 8), (RX7, TX7, 7), (RX9, TX9, 7)]
