def RX0 : String := "BellStreet$Bell"
def TX0 : u_T := fun k => match k with
  | 0 => ("BellStreet$Bell", "melody", "LBellStreet$Melody;", false)
  | 1 => ("BellStreet$Bell", "load", "I", false)
  | 2 => ("BellStreet$Bell", "isRinging", "Z", false)
  | _ => ("BellStreet$Bell", "stopsAt", "I", false)
def tyX0 : Nat → FieldType := fun k => match k with
  | 0 => .object "BellStreet$Melody"
  | 1 => .int
  | 2 => .boolean
  | _ => .int
abbrev wsX00 : List Cond := u_ws RX0 TX0 4
theorem nmX0 : ∀ a, a < 4 → ∀ b, b < 4 → a ≠ b → (TX0 a).2.1 ≠ (TX0 b).2.1 := by decide +kernel
theorem tyX0_ok : ∀ k, k < 4 → parseFieldDescriptor (TX0 k).2.2.1 = some (tyX0 k) := by decide +kernel
abbrev cX0_init : ByteArray := prog_2_method_1_code
def yX0_init : MethodName := ⟨RX0, "<init>", "()V"⟩
abbrev cX0_ringUntil : ByteArray := prog_2_method_2_code
def yX0_ringUntil : MethodName := ⟨RX0, "ringUntil", "(I)V"⟩
def RX1 : String := "BellStreet$Crew"
def TX1 : u_T := fun k => match k with
  | 0 => ("BellStreet$Crew", "goal", "LBellStreet$House;", false)
  | _ => ("BellStreet$Crew", "doneAt", "I", false)
def tyX1 : Nat → FieldType := fun k => match k with
  | 0 => .object "BellStreet$House"
  | _ => .int
abbrev wsX10 : List Cond := u_ws RX1 TX1 2
theorem nmX1 : ∀ a, a < 2 → ∀ b, b < 2 → a ≠ b → (TX1 a).2.1 ≠ (TX1 b).2.1 := by decide +kernel
theorem tyX1_ok : ∀ k, k < 2 → parseFieldDescriptor (TX1 k).2.2.1 = some (tyX1 k) := by decide +kernel
abbrev cX1_init : ByteArray := prog_3_method_1_code
def yX1_init : MethodName := ⟨RX1, "<init>", "()V"⟩
abbrev cX1_finish : ByteArray := prog_3_method_2_code
def yX1_finish : MethodName := ⟨RX1, "finish", "(I)V"⟩
def RX2 : String := "BellStreet$House"
def TX2 : u_T := fun k => match k with
  | 0 => ("BellStreet$House", "number", "I", true)
  | 1 => ("BellStreet$House", "street", "I", true)
  | 2 => ("BellStreet$House", "bells", "[LBellStreet$Bell;", true)
  | 3 => ("BellStreet$House", "rights", "[I", true)
  | 4 => ("BellStreet$House", "sound", "Z", false)
  | 5 => ("BellStreet$House", "quietFrom", "I", false)
  | 6 => ("BellStreet$House", "quietTo", "I", false)
  | 7 => ("BellStreet$House", "score", "I", false)
  | 8 => ("BellStreet$House", "rungSeconds", "I", false)
  | 9 => ("BellStreet$House", "rungQuietSeconds", "I", false)
  | 10 => ("BellStreet$House", "hushedPresses", "I", false)
  | 11 => ("BellStreet$House", "faultsOfTheDay", "I", false)
  | _ => ("BellStreet$House", "keptQuietToday", "Z", false)
def tyX2 : Nat → FieldType := fun k => match k with
  | 0 => .int
  | 1 => .int
  | 2 => .array (.object "BellStreet$Bell")
  | 3 => .array .int
  | 4 => .boolean
  | 5 => .int
  | 6 => .int
  | 7 => .int
  | 8 => .int
  | 9 => .int
  | 10 => .int
  | 11 => .int
  | _ => .boolean
abbrev wsX20 : List Cond := u_ws RX2 TX2 13
theorem nmX2 : ∀ a, a < 13 → ∀ b, b < 13 → a ≠ b → (TX2 a).2.1 ≠ (TX2 b).2.1 := by decide +kernel
theorem tyX2_ok : ∀ k, k < 13 → parseFieldDescriptor (TX2 k).2.2.1 = some (tyX2 k) := by decide +kernel
abbrev cX2_init : ByteArray := prog_4_method_1_code
def yX2_init : MethodName := ⟨RX2, "<init>", "(I)V"⟩
abbrev cX2_isQuietAt : ByteArray := prog_4_method_2_code
def yX2_isQuietAt : MethodName := ⟨RX2, "isQuietAt", "(I)Z"⟩
abbrev cX2_quietSeconds : ByteArray := prog_4_method_3_code
def yX2_quietSeconds : MethodName := ⟨RX2, "quietSeconds", "(II)I"⟩
abbrev cX2_shared : ByteArray := prog_4_method_4_code
def yX2_shared : MethodName := ⟨RX2, "shared", "(IIII)I"⟩
abbrev cX2_mayRing : ByteArray := prog_4_method_5_code
def yX2_mayRing : MethodName := ⟨RX2, "mayRing", "(LBellStreet$Melody;)Z"⟩
abbrev cX2_useRight : ByteArray := prog_4_method_6_code
def yX2_useRight : MethodName := ⟨RX2, "useRight", "(LBellStreet$Melody;)V"⟩
abbrev cX2_ringingSet : ByteArray := prog_4_method_7_code
def yX2_ringingSet : MethodName := ⟨RX2, "ringingSet", "()I"⟩
abbrev cX2_ringingLoad : ByteArray := prog_4_method_8_code
def yX2_ringingLoad : MethodName := ⟨RX2, "ringingLoad", "()I"⟩
abbrev cX2_startBells : ByteArray := prog_4_method_9_code
def yX2_startBells : MethodName := ⟨RX2, "startBells", "(I)I"⟩
abbrev cX2_breakDown : ByteArray := prog_4_method_10_code
def yX2_breakDown : MethodName := ⟨RX2, "breakDown", "()V"⟩
abbrev cX2_firstStop : ByteArray := prog_4_method_11_code
def yX2_firstStop : MethodName := ⟨RX2, "firstStop", "(I)I"⟩
abbrev cX2_stopEndedBells : ByteArray := prog_4_method_12_code
def yX2_stopEndedBells : MethodName := ⟨RX2, "stopEndedBells", "(I)V"⟩
abbrev cX2_spend : ByteArray := prog_4_method_13_code
def yX2_spend : MethodName := ⟨RX2, "spend", "(II)V"⟩
abbrev cX2_closeDay : ByteArray := prog_4_method_14_code
def yX2_closeDay : MethodName := ⟨RX2, "closeDay", "()V"⟩
def RX3 : String := "BellStreet$Melody"
def TX3 : u_T := fun k => match k with
  | 0 => ("BellStreet$Melody", "number", "I", true)
  | 1 => ("BellStreet$Melody", "owner", "I", true)
  | 2 => ("BellStreet$Melody", "count", "I", true)
  | _ => ("BellStreet$Melody", "tones", "J", true)
def tyX3 : Nat → FieldType := fun k => match k with
  | 0 => .int
  | 1 => .int
  | 2 => .int
  | _ => .long
abbrev wsX30 : List Cond := u_ws RX3 TX3 4
theorem nmX3 : ∀ a, a < 4 → ∀ b, b < 4 → a ≠ b → (TX3 a).2.1 ≠ (TX3 b).2.1 := by decide +kernel
theorem tyX3_ok : ∀ k, k < 4 → parseFieldDescriptor (TX3 k).2.2.1 = some (tyX3 k) := by decide +kernel
abbrev cX3_init : ByteArray := prog_5_method_1_code
def yX3_init : MethodName := ⟨RX3, "<init>", "(IIIJ)V"⟩
abbrev cX3_lasts : ByteArray := prog_5_method_2_code
def yX3_lasts : MethodName := ⟨RX3, "lasts", "()I"⟩
abbrev cX3_tone : ByteArray := prog_5_method_3_code
def yX3_tone : MethodName := ⟨RX3, "tone", "(I)I"⟩
abbrev cX3_tonesShifted : ByteArray := prog_5_method_4_code
def yX3_tonesShifted : MethodName := ⟨RX3, "tonesShifted", "(I)J"⟩
abbrev cX3_tonesTurned : ByteArray := prog_5_method_5_code
def yX3_tonesTurned : MethodName := ⟨RX3, "tonesTurned", "()J"⟩
abbrev cX3_isShiftOf : ByteArray := prog_5_method_6_code
def yX3_isShiftOf : MethodName := ⟨RX3, "isShiftOf", "(LBellStreet$Melody;)Z"⟩
def RX4 : String := "BellStreet"
def TX4 : u_T := fun k => match k with
  | 0 => ("BellStreet", "houses", "[LBellStreet$House;", true)
  | 1 => ("BellStreet", "crews", "[LBellStreet$Crew;", true)
  | 2 => ("BellStreet", "melodies", "[LBellStreet$Melody;", true)
  | 3 => ("BellStreet", "toldFaults", "[I", true)
  | 4 => ("BellStreet", "melodyCount", "I", false)
  | 5 => ("BellStreet", "faultCount", "I", false)
  | _ => ("BellStreet", "now", "I", false)
def tyX4 : Nat → FieldType := fun k => match k with
  | 0 => .array (.object "BellStreet$House")
  | 1 => .array (.object "BellStreet$Crew")
  | 2 => .array (.object "BellStreet$Melody")
  | 3 => .array .int
  | 4 => .int
  | 5 => .int
  | _ => .int
abbrev wsX40 : List Cond := u_ws RX4 TX4 7
theorem nmX4 : ∀ a, a < 7 → ∀ b, b < 7 → a ≠ b → (TX4 a).2.1 ≠ (TX4 b).2.1 := by decide +kernel
theorem tyX4_ok : ∀ k, k < 7 → parseFieldDescriptor (TX4 k).2.2.1 = some (tyX4 k) := by decide +kernel
abbrev cX4_init : ByteArray := prog_1_method_1_code
def yX4_init : MethodName := ⟨RX4, "<init>", "()V"⟩
abbrev cX4_addMelody : ByteArray := prog_1_method_2_code
def yX4_addMelody : MethodName := ⟨RX4, "addMelody", "(IIJ)I"⟩
abbrev cX4_toneAt : ByteArray := prog_1_method_3_code
def yX4_toneAt : MethodName := ⟨RX4, "toneAt", "(II)I"⟩
abbrev cX4_shifted : ByteArray := prog_1_method_4_code
def yX4_shifted : MethodName := ⟨RX4, "shifted", "(II)J"⟩
abbrev cX4_turned : ByteArray := prog_1_method_5_code
def yX4_turned : MethodName := ⟨RX4, "turned", "(I)J"⟩
abbrev cX4_areAlike : ByteArray := prog_1_method_6_code
def yX4_areAlike : MethodName := ⟨RX4, "areAlike", "(II)Z"⟩
abbrev cX4_license : ByteArray := prog_1_method_7_code
def yX4_license : MethodName := ⟨RX4, "license", "(III)I"⟩
abbrev cX4_setQuiet : ByteArray := prog_1_method_8_code
def yX4_setQuiet : MethodName := ⟨RX4, "setQuiet", "(III)Z"⟩
abbrev cX4_lay : ByteArray := prog_1_method_9_code
def yX4_lay : MethodName := ⟨RX4, "lay", "(IIII)I"⟩
abbrev cX4_press : ByteArray := prog_1_method_10_code
def yX4_press : MethodName := ⟨RX4, "press", "(II)I"⟩
abbrev cX4_fault : ByteArray := prog_1_method_11_code
def yX4_fault : MethodName := ⟨RX4, "fault", "(I)I"⟩
abbrev cX4_repair : ByteArray := prog_1_method_12_code
def yX4_repair : MethodName := ⟨RX4, "repair", "(I)I"⟩
abbrev cX4_pass : ByteArray := prog_1_method_13_code
def yX4_pass : MethodName := ⟨RX4, "pass", "(I)I"⟩
abbrev cX4_time : ByteArray := prog_1_method_14_code
def yX4_time : MethodName := ⟨RX4, "time", "()I"⟩
abbrev cX4_ringing : ByteArray := prog_1_method_15_code
def yX4_ringing : MethodName := ⟨RX4, "ringing", "(I)I"⟩
abbrev cX4_isSound : ByteArray := prog_1_method_16_code
def yX4_isSound : MethodName := ⟨RX4, "isSound", "(I)Z"⟩
abbrev cX4_ringsLeft : ByteArray := prog_1_method_17_code
def yX4_ringsLeft : MethodName := ⟨RX4, "ringsLeft", "(II)I"⟩
abbrev cX4_points : ByteArray := prog_1_method_18_code
def yX4_points : MethodName := ⟨RX4, "points", "(I)I"⟩
abbrev cX4_secondsRung : ByteArray := prog_1_method_19_code
def yX4_secondsRung : MethodName := ⟨RX4, "secondsRung", "(I)I"⟩
abbrev cX4_quietBroken : ByteArray := prog_1_method_20_code
def yX4_quietBroken : MethodName := ⟨RX4, "quietBroken", "(I)I"⟩
abbrev cX4_hushed : ByteArray := prog_1_method_21_code
def yX4_hushed : MethodName := ⟨RX4, "hushed", "(I)I"⟩
abbrev cX4_faults : ByteArray := prog_1_method_22_code
def yX4_faults : MethodName := ⟨RX4, "faults", "()I"⟩
abbrev cX4_faultAt : ByteArray := prog_1_method_23_code
def yX4_faultAt : MethodName := ⟨RX4, "faultAt", "(I)I"⟩
abbrev cX4_checkHouse : ByteArray := prog_1_method_24_code
def yX4_checkHouse : MethodName := ⟨RX4, "checkHouse", "(I)V"⟩
abbrev cX4_houseAt : ByteArray := prog_1_method_25_code
def yX4_houseAt : MethodName := ⟨RX4, "houseAt", "(I)LBellStreet$House;"⟩
abbrev cX4_bellAt : ByteArray := prog_1_method_26_code
def yX4_bellAt : MethodName := ⟨RX4, "bellAt", "(II)LBellStreet$Bell;"⟩
abbrev cX4_melodyAt : ByteArray := prog_1_method_27_code
def yX4_melodyAt : MethodName := ⟨RX4, "melodyAt", "(I)LBellStreet$Melody;"⟩
abbrev cX4_nextChange : ByteArray := prog_1_method_28_code
def yX4_nextChange : MethodName := ⟨RX4, "nextChange", "(I)I"⟩
abbrev cX4_passStretch : ByteArray := prog_1_method_29_code
def yX4_passStretch : MethodName := ⟨RX4, "passStretch", "(I)V"⟩
def RX5 : String := "BellStreetModel"
def TX5 : u_T := fun k => match k with
  | _ => ("", "", "", false)
def tyX5 : Nat → FieldType := fun k => match k with
  | _ => .int
abbrev wsX50 : List Cond := u_ws RX5 TX5 0
theorem nmX5 : ∀ a, a < 0 → ∀ b, b < 0 → a ≠ b → (TX5 a).2.1 ≠ (TX5 b).2.1 := by decide +kernel
theorem tyX5_ok : ∀ k, k < 0 → parseFieldDescriptor (TX5 k).2.2.1 = some (tyX5 k) := by decide +kernel
def RJ9 : String := "java/lang/Math"
def TJ9 : u_T := fun k => match k with
  | _ => ("", "", "", false)
def tyJ9 : Nat → FieldType := fun k => match k with
  | _ => .int
abbrev wsJ90 : List Cond := u_ws RJ9 TJ9 0
theorem nmJ9 : ∀ a, a < 0 → ∀ b, b < 0 → a ≠ b → (TJ9 a).2.1 ≠ (TJ9 b).2.1 := by decide +kernel
theorem tyJ9_ok : ∀ k, k < 0 → parseFieldDescriptor (TJ9 k).2.2.1 = some (tyJ9 k) := by decide +kernel
abbrev cJ9_max_7cf53 : ByteArray := prog_12_method_65_code
def yJ9_max_7cf53 : MethodName := ⟨RJ9, "max", "(II)I"⟩
abbrev cJ9_min_7cf53 : ByteArray := prog_12_method_69_code
def yJ9_min_7cf53 : MethodName := ⟨RJ9, "min", "(II)I"⟩
def RJ0 : String := "java/lang/String"
def TJ0 : u_T := fun k => match k with
  | _ => ("", "", "", false)
def tyJ0 : Nat → FieldType := fun k => match k with
  | _ => .int
abbrev wsJ00 : List Cond := u_ws RJ0 TJ0 0
theorem nmJ0 : ∀ a, a < 0 → ∀ b, b < 0 → a ≠ b → (TJ0 a).2.1 ≠ (TJ0 b).2.1 := by decide +kernel
theorem tyJ0_ok : ∀ k, k < 0 → parseFieldDescriptor (TJ0 k).2.2.1 = some (tyJ0 k) := by decide +kernel
def RL : String := "BellStreetLaw"
abbrev cL_low : ByteArray := method_2_code
def yL_low : MethodName := ⟨RL, "low", "(II)I"⟩
abbrev cL_cell : ByteArray := method_3_code
def yL_cell : MethodName := ⟨RL, "cell", "([II)I"⟩
abbrev cL_melody : ByteArray := method_4_code
def yL_melody : MethodName := ⟨RL, "melody", "(LBellStreet;IIJ)I"⟩
abbrev cL_license : ByteArray := method_5_code
def yL_license : MethodName := ⟨RL, "license", "(LBellStreet;III)I"⟩
abbrev cL_press : ByteArray := method_6_code
def yL_press : MethodName := ⟨RL, "press", "(LBellStreet;II)I"⟩
abbrev cL_fault : ByteArray := method_7_code
def yL_fault : MethodName := ⟨RL, "fault", "(LBellStreet;I)I"⟩
abbrev cL_repair : ByteArray := method_8_code
def yL_repair : MethodName := ⟨RL, "repair", "(LBellStreet;I)I"⟩
abbrev cL_bits : ByteArray := method_9_code
def yL_bits : MethodName := ⟨RL, "bits", "(I)I"⟩
abbrev cL_holds : ByteArray := method_10_code
def yL_holds : MethodName := ⟨RL, "holds", "(LBellStreet;)Z"⟩
abbrev cL_melodies : ByteArray := method_11_code
def yL_melodies : MethodName := ⟨RL, "melodies", "(LBellStreet;IIJI)Z"⟩
abbrev cL_presses : ByteArray := method_12_code
def yL_presses : MethodName := ⟨RL, "presses", "(LBellStreet;II)Z"⟩
abbrev cL_faulty : ByteArray := method_13_code
def yL_faulty : MethodName := ⟨RL, "faulty", "(LBellStreet;I)Z"⟩
abbrev cL_law : ByteArray := code
def yL_law : MethodName := ⟨RL, "law", "([I)Z"⟩
def wsX0_init : List Cond := .code yX0_init cX0_init 1 none :: ([.methodLink RX0 1 objectInit, .instanceMethod objectInit, .code objectInit ⟨#[0xb1]⟩ 1 none, .fieldLink RX0 7 "BellStreet$Bell" "melody" "LBellStreet$Melody;", .fieldLink RX0 13 "BellStreet$Bell" "load" "I", .fieldLink RX0 17 "BellStreet$Bell" "isRinging" "Z", .fieldLink RX0 21 "BellStreet$Bell" "stopsAt" "I"] ++ wsX00)
def wsX0_ringUntil : List Cond := .code yX0_ringUntil cX0_ringUntil 2 none :: ([.fieldLink RX0 17 "BellStreet$Bell" "isRinging" "Z", .fieldLink RX0 21 "BellStreet$Bell" "stopsAt" "I"] ++ wsX00)
def wsX1_init : List Cond := .code yX1_init cX1_init 1 none :: ([.methodLink RX1 1 objectInit, .instanceMethod objectInit, .code objectInit ⟨#[0xb1]⟩ 1 none, .fieldLink RX1 7 "BellStreet$Crew" "goal" "LBellStreet$House;", .fieldLink RX1 13 "BellStreet$Crew" "doneAt" "I"] ++ wsX10)
def wsX1_finish : List Cond := .code yX1_finish cX1_finish 2 none :: ([.fieldLink RX1 7 "BellStreet$Crew" "goal" "LBellStreet$House;", .fieldLink RX1 13 "BellStreet$Crew" "doneAt" "I"] ++ wsX10 ++ wsX20)
def wsX2_init_r1 : List Cond := [Cond.methodLink RX2 3 objectInit, Cond.instanceMethod objectInit, Cond.code objectInit ⟨#[0xb1]⟩ 1 none, Cond.classLink RX2 9 RX0, Cond.fieldLink RX2 11 "BellStreet$House" "bells" "[LBellStreet$Bell;", Cond.arrayClass .int, Cond.fieldLink RX2 17 "BellStreet$House" "rights" "[I", Cond.fieldLink RX2 21 "BellStreet$House" "sound" "Z", Cond.fieldLink RX2 25 "BellStreet$House" "quietFrom" "I", Cond.fieldLink RX2 29 "BellStreet$House" "quietTo" "I", Cond.fieldLink RX2 32 "BellStreet$House" "score" "I", Cond.fieldLink RX2 35 "BellStreet$House" "rungSeconds" "I", Cond.fieldLink RX2 38 "BellStreet$House" "rungQuietSeconds" "I", Cond.fieldLink RX2 41 "BellStreet$House" "hushedPresses" "I", Cond.fieldLink RX2 44 "BellStreet$House" "faultsOfTheDay" "I", Cond.fieldLink RX2 47 "BellStreet$House" "keptQuietToday" "Z", Cond.fieldLink RX2 50 "BellStreet$House" "number" "I", Cond.fieldLink RX2 53 "BellStreet$House" "street" "I", Cond.instantiable RX0 4, Cond.initialized RX0, Cond.instanceMethod yX0_init, Cond.code yX0_init cX0_init 1 none, Cond.methodLink RX0 1 objectInit, Cond.fieldLink RX0 7 "BellStreet$Bell" "melody" "LBellStreet$Melody;"]
def wsX2_init_r2 : List Cond := [Cond.fieldLink RX0 13 "BellStreet$Bell" "load" "I", Cond.fieldLink RX0 17 "BellStreet$Bell" "isRinging" "Z", Cond.fieldLink RX0 21 "BellStreet$Bell" "stopsAt" "I"]
def wsX2_init : List Cond := .code yX2_init cX2_init 3 none :: ((wsX2_init_r1 ++ wsX2_init_r2) ++ wsX20 ++ wsX00)
def wsX2_shared : List Cond := .code yX2_shared cX2_shared 4 (some .int) :: ([.methodLink RX2 65 Lib.Math.min.name, .static Lib.Math.min.name, .initialized "java/lang/Math", .code Lib.Math.min.name Lib.Math.min.code 2 (some .int), .methodLink RX2 70 Lib.Math.max.name, .static Lib.Math.max.name, .code Lib.Math.max.name Lib.Math.max.code 2 (some .int)])
def wsX2_quietSeconds : List Cond := .code yX2_quietSeconds cX2_quietSeconds 5 (some .int) :: ([.fieldLink RX2 25 "BellStreet$House" "quietFrom" "I", .fieldLink RX2 29 "BellStreet$House" "quietTo" "I", .methodLink RX2 61 yX2_shared, .static yX2_shared, .initialized RX2, .code yX2_shared cX2_shared 4 (some .int), .methodLink RX2 65 Lib.Math.min.name, .static Lib.Math.min.name, .initialized "java/lang/Math", .code Lib.Math.min.name Lib.Math.min.code 2 (some .int), .methodLink RX2 70 Lib.Math.max.name, .static Lib.Math.max.name, .code Lib.Math.max.name Lib.Math.max.code 2 (some .int)] ++ wsX20)
def wsX2_isQuietAt : List Cond := .code yX2_isQuietAt cX2_isQuietAt 2 (some .boolean) :: ([.methodLink RX2 57 yX2_quietSeconds, .instanceMethod yX2_quietSeconds, .selects RX2 yX2_quietSeconds yX2_quietSeconds, .initialized RX2, .code yX2_quietSeconds cX2_quietSeconds 5 (some .int), .fieldLink RX2 25 "BellStreet$House" "quietFrom" "I", .fieldLink RX2 29 "BellStreet$House" "quietTo" "I", .methodLink RX2 61 yX2_shared, .static yX2_shared, .code yX2_shared cX2_shared 4 (some .int), .methodLink RX2 65 Lib.Math.min.name, .static Lib.Math.min.name, .initialized "java/lang/Math", .code Lib.Math.min.name Lib.Math.min.code 2 (some .int), .methodLink RX2 70 Lib.Math.max.name, .static Lib.Math.max.name, .code Lib.Math.max.name Lib.Math.max.code 2 (some .int)] ++ wsX20)
def wsX2_mayRing : List Cond := .code yX2_mayRing cX2_mayRing 2 (some .boolean) :: ([.fieldLink RX2 50 "BellStreet$House" "number" "I", .fieldLink RX2 17 "BellStreet$House" "rights" "[I"] ++ wsX30 ++ wsX20)
def wsX2_useRight : List Cond := .code yX2_useRight cX2_useRight 2 none :: ([.fieldLink RX2 50 "BellStreet$House" "number" "I", .fieldLink RX2 17 "BellStreet$House" "rights" "[I"] ++ wsX30 ++ wsX20)
def wsX2_ringingSet : List Cond := .code yX2_ringingSet cX2_ringingSet 3 (some .int) :: ([.fieldLink RX2 11 "BellStreet$House" "bells" "[LBellStreet$Bell;"] ++ wsX20 ++ wsX00)
def wsX2_ringingLoad : List Cond := .code yX2_ringingLoad cX2_ringingLoad 6 (some .int) :: ([.fieldLink RX2 11 "BellStreet$House" "bells" "[LBellStreet$Bell;"] ++ wsX20 ++ wsX00)
def wsX3_lasts : List Cond := .code yX3_lasts cX3_lasts 1 (some .int) :: ([.fieldLink RX3 18 "BellStreet$Melody" "count" "I"] ++ wsX30)
def wsX2_startBells : List Cond := .code yX2_startBells cX2_startBells 7 (some .int) :: ([.fieldLink RX2 11 "BellStreet$House" "bells" "[LBellStreet$Bell;", .methodLink RX2 89 yX3_lasts, .instanceMethod yX3_lasts, .selects RX3 yX3_lasts yX3_lasts, .initialized RX3, .code yX3_lasts cX3_lasts 1 (some .int), .fieldLink RX3 18 "BellStreet$Melody" "count" "I", .methodLink RX2 93 yX0_ringUntil, .instanceMethod yX0_ringUntil, .selects RX0 yX0_ringUntil yX0_ringUntil, .initialized RX0, .code yX0_ringUntil cX0_ringUntil 2 none, .fieldLink RX0 17 "BellStreet$Bell" "isRinging" "Z", .fieldLink RX0 21 "BellStreet$Bell" "stopsAt" "I"] ++ wsX20 ++ wsX00 ++ wsX30)
def wsX2_breakDown : List Cond := .code yX2_breakDown cX2_breakDown 5 none :: ([.fieldLink RX2 21 "BellStreet$House" "sound" "Z", .fieldLink RX2 11 "BellStreet$House" "bells" "[LBellStreet$Bell;"] ++ wsX20 ++ wsX00)
def wsX2_firstStop : List Cond := .code yX2_firstStop cX2_firstStop 7 (some .int) :: ([.fieldLink RX2 11 "BellStreet$House" "bells" "[LBellStreet$Bell;"] ++ wsX20 ++ wsX00)
def wsX2_stopEndedBells : List Cond := .code yX2_stopEndedBells cX2_stopEndedBells 6 none :: ([.fieldLink RX2 11 "BellStreet$House" "bells" "[LBellStreet$Bell;"] ++ wsX20 ++ wsX00)
def wsX2_spend_r1 : List Cond := [Cond.fieldLink RX2 35 "BellStreet$House" "rungSeconds" "I", Cond.fieldLink RX2 38 "BellStreet$House" "rungQuietSeconds" "I", Cond.fieldLink RX2 47 "BellStreet$House" "keptQuietToday" "Z", Cond.methodLink RX2 100 yX2_ringingSet, Cond.instanceMethod yX2_ringingSet, Cond.selects RX2 yX2_ringingSet yX2_ringingSet, Cond.initialized RX2, Cond.code yX2_ringingSet cX2_ringingSet 3 (some .int), Cond.fieldLink RX2 11 "BellStreet$House" "bells" "[LBellStreet$Bell;", Cond.methodLink RX2 57 yX2_quietSeconds, Cond.instanceMethod yX2_quietSeconds, Cond.selects RX2 yX2_quietSeconds yX2_quietSeconds, Cond.code yX2_quietSeconds cX2_quietSeconds 5 (some .int), Cond.fieldLink RX2 25 "BellStreet$House" "quietFrom" "I", Cond.fieldLink RX2 29 "BellStreet$House" "quietTo" "I", Cond.methodLink RX2 61 yX2_shared, Cond.static yX2_shared, Cond.code yX2_shared cX2_shared 4 (some .int), Cond.methodLink RX2 65 Lib.Math.min.name, Cond.static Lib.Math.min.name, Cond.initialized "java/lang/Math", Cond.code Lib.Math.min.name Lib.Math.min.code 2 (some .int), Cond.methodLink RX2 70 Lib.Math.max.name, Cond.static Lib.Math.max.name]
def wsX2_spend_r2 : List Cond := [Cond.code Lib.Math.max.name Lib.Math.max.code 2 (some .int)]
def wsX2_spend : List Cond := .code yX2_spend cX2_spend 4 none :: ((wsX2_spend_r1 ++ wsX2_spend_r2) ++ wsX20 ++ wsX00)
def wsX2_closeDay : List Cond := .code yX2_closeDay cX2_closeDay 1 none :: ([.fieldLink RX2 47 "BellStreet$House" "keptQuietToday" "Z", .fieldLink RX2 32 "BellStreet$House" "score" "I", .fieldLink RX2 44 "BellStreet$House" "faultsOfTheDay" "I"] ++ wsX20)
def wsX3_init : List Cond := .code yX3_init cX3_init 6 none :: ([.methodLink RX3 3 objectInit, .instanceMethod objectInit, .code objectInit ⟨#[0xb1]⟩ 1 none, .fieldLink RX3 9 "BellStreet$Melody" "number" "I", .fieldLink RX3 15 "BellStreet$Melody" "owner" "I", .fieldLink RX3 18 "BellStreet$Melody" "count" "I", .fieldLink RX3 21 "BellStreet$Melody" "tones" "J"] ++ wsX30)
def wsX3_tone : List Cond := .code yX3_tone cX3_tone 2 (some .int) :: ([.fieldLink RX3 21 "BellStreet$Melody" "tones" "J"] ++ wsX30)
def wsX3_tonesShifted : List Cond := .code yX3_tonesShifted cX3_tonesShifted 5 (some .long) :: ([.fieldLink RX3 18 "BellStreet$Melody" "count" "I", .methodLink RX3 25 yX3_tone, .instanceMethod yX3_tone, .selects RX3 yX3_tone yX3_tone, .initialized RX3, .code yX3_tone cX3_tone 2 (some .int), .fieldLink RX3 21 "BellStreet$Melody" "tones" "J"] ++ wsX30)
def wsX3_tonesTurned : List Cond := .code yX3_tonesTurned cX3_tonesTurned 4 (some .long) :: ([.fieldLink RX3 18 "BellStreet$Melody" "count" "I", .methodLink RX3 25 yX3_tone, .instanceMethod yX3_tone, .selects RX3 yX3_tone yX3_tone, .initialized RX3, .code yX3_tone cX3_tone 2 (some .int), .fieldLink RX3 21 "BellStreet$Melody" "tones" "J"] ++ wsX30)
def wsX3_isShiftOf : List Cond := .code yX3_isShiftOf cX3_isShiftOf 3 (some .boolean) :: ([.fieldLink RX3 18 "BellStreet$Melody" "count" "I", .fieldLink RX3 21 "BellStreet$Melody" "tones" "J", .methodLink RX3 25 yX3_tone, .instanceMethod yX3_tone, .selects RX3 yX3_tone yX3_tone, .initialized RX3, .code yX3_tone cX3_tone 2 (some .int), .methodLink RX3 29 yX3_tonesShifted, .instanceMethod yX3_tonesShifted, .selects RX3 yX3_tonesShifted yX3_tonesShifted, .code yX3_tonesShifted cX3_tonesShifted 5 (some .long)] ++ wsX30)
def wsX4_init_r1 : List Cond := [Cond.methodLink RX4 1 objectInit, Cond.instanceMethod objectInit, Cond.code objectInit ⟨#[0xb1]⟩ 1 none, Cond.classLink RX4 9 RX2, Cond.fieldLink RX4 11 "BellStreet" "houses" "[LBellStreet$House;", Cond.classLink RX4 15 RX1, Cond.fieldLink RX4 17 "BellStreet" "crews" "[LBellStreet$Crew;", Cond.classLink RX4 21 RX3, Cond.fieldLink RX4 23 "BellStreet" "melodies" "[LBellStreet$Melody;", Cond.arrayClass .int, Cond.fieldLink RX4 27 "BellStreet" "toldFaults" "[I", Cond.fieldLink RX4 31 "BellStreet" "melodyCount" "I", Cond.fieldLink RX4 35 "BellStreet" "faultCount" "I", Cond.fieldLink RX4 38 "BellStreet" "now" "I", Cond.instantiable RX2 13, Cond.initialized RX2, Cond.instantiable RX1 2, Cond.initialized RX1, Cond.methodLink RX4 41 yX2_init, Cond.instanceMethod yX2_init, Cond.code yX2_init cX2_init 3 none, Cond.methodLink RX2 3 objectInit, Cond.classLink RX2 9 RX0, Cond.fieldLink RX2 11 "BellStreet$House" "bells" "[LBellStreet$Bell;"]
def wsX4_init_r2 : List Cond := [Cond.fieldLink RX2 17 "BellStreet$House" "rights" "[I", Cond.fieldLink RX2 21 "BellStreet$House" "sound" "Z", Cond.fieldLink RX2 25 "BellStreet$House" "quietFrom" "I", Cond.fieldLink RX2 29 "BellStreet$House" "quietTo" "I", Cond.fieldLink RX2 32 "BellStreet$House" "score" "I", Cond.fieldLink RX2 35 "BellStreet$House" "rungSeconds" "I", Cond.fieldLink RX2 38 "BellStreet$House" "rungQuietSeconds" "I", Cond.fieldLink RX2 41 "BellStreet$House" "hushedPresses" "I", Cond.fieldLink RX2 44 "BellStreet$House" "faultsOfTheDay" "I", Cond.fieldLink RX2 47 "BellStreet$House" "keptQuietToday" "Z", Cond.fieldLink RX2 50 "BellStreet$House" "number" "I", Cond.fieldLink RX2 53 "BellStreet$House" "street" "I", Cond.instantiable RX0 4, Cond.initialized RX0, Cond.instanceMethod yX0_init, Cond.code yX0_init cX0_init 1 none, Cond.methodLink RX0 1 objectInit, Cond.fieldLink RX0 7 "BellStreet$Bell" "melody" "LBellStreet$Melody;", Cond.fieldLink RX0 13 "BellStreet$Bell" "load" "I", Cond.fieldLink RX0 17 "BellStreet$Bell" "isRinging" "Z", Cond.fieldLink RX0 21 "BellStreet$Bell" "stopsAt" "I", Cond.instanceMethod yX1_init, Cond.code yX1_init cX1_init 1 none, Cond.methodLink RX1 1 objectInit]
def wsX4_init_r3 : List Cond := [Cond.fieldLink RX1 7 "BellStreet$Crew" "goal" "LBellStreet$House;", Cond.fieldLink RX1 13 "BellStreet$Crew" "doneAt" "I"]
def wsX4_init : List Cond := .code yX4_init cX4_init 2 none :: ((wsX4_init_r1 ++ (wsX4_init_r2 ++ wsX4_init_r3)) ++ wsX40 ++ wsX20 ++ wsX10 ++ wsX00)
def wsX4_checkHouse : List Cond := .code yX4_checkHouse cX4_checkHouse 2 none :: ([.classLink RX4 72 "java/lang/IndexOutOfBoundsException", .initialized "java/lang/IndexOutOfBoundsException"] ++ (vx_atS RX4 76 "java/lang/IndexOutOfBoundsException" ["java/lang/RuntimeException", "java/lang/Exception"]).filter goodWord)
def wsX4_addMelody_r1 : List Cond := [Cond.classLink RX4 48 "java/lang/IllegalArgumentException", Cond.initialized "java/lang/IllegalArgumentException", Cond.classLink RX4 57 "java/lang/IllegalStateException", Cond.initialized "java/lang/IllegalStateException", Cond.fieldLink RX4 31 "BellStreet" "melodyCount" "I", Cond.fieldLink RX4 23 "BellStreet" "melodies" "[LBellStreet$Melody;", Cond.classLink RX4 21 RX3, Cond.instantiable RX3 4, Cond.initialized RX3, Cond.methodLink RX4 45 yX4_checkHouse, Cond.instanceMethod yX4_checkHouse, Cond.selects RX4 yX4_checkHouse yX4_checkHouse, Cond.initialized RX4, Cond.code yX4_checkHouse cX4_checkHouse 2 none, Cond.classLink RX4 72 "java/lang/IndexOutOfBoundsException", Cond.initialized "java/lang/IndexOutOfBoundsException", Cond.methodLink RX4 62 yX3_init, Cond.instanceMethod yX3_init, Cond.code yX3_init cX3_init 6 none, Cond.methodLink RX3 3 objectInit, Cond.instanceMethod objectInit, Cond.code objectInit ⟨#[0xb1]⟩ 1 none, Cond.fieldLink RX3 9 "BellStreet$Melody" "number" "I", Cond.fieldLink RX3 15 "BellStreet$Melody" "owner" "I"]
def wsX4_addMelody_r2 : List Cond := [Cond.fieldLink RX3 18 "BellStreet$Melody" "count" "I", Cond.fieldLink RX3 21 "BellStreet$Melody" "tones" "J"]
def wsX4_addMelody : List Cond := .code yX4_addMelody cX4_addMelody 6 (some .int) :: ((wsX4_addMelody_r1 ++ wsX4_addMelody_r2) ++ wsX40 ++ wsX30 ++ (vx_atS RX4 52 "java/lang/IllegalArgumentException" ["java/lang/RuntimeException", "java/lang/Exception"]).filter goodWord ++ (vx_atS RX4 61 "java/lang/IllegalStateException" ["java/lang/RuntimeException", "java/lang/Exception"]).filter goodWord ++ (vx_atS RX4 76 "java/lang/IndexOutOfBoundsException" ["java/lang/RuntimeException", "java/lang/Exception"]).filter goodWord)
def wsX4_melodyAt : List Cond := .code yX4_melodyAt cX4_melodyAt 3 (some (.object "BellStreet$Melody")) :: ([.classLink RX4 72 "java/lang/IndexOutOfBoundsException", .initialized "java/lang/IndexOutOfBoundsException", .fieldLink RX4 23 "BellStreet" "melodies" "[LBellStreet$Melody;"] ++ wsX40 ++ (vx_atS RX4 76 "java/lang/IndexOutOfBoundsException" ["java/lang/RuntimeException", "java/lang/Exception"]).filter goodWord)
def wsX4_toneAt : List Cond := .code yX4_toneAt cX4_toneAt 4 (some .int) :: ([.classLink RX4 72 "java/lang/IndexOutOfBoundsException", .initialized "java/lang/IndexOutOfBoundsException", .methodLink RX4 65 yX4_melodyAt, .instanceMethod yX4_melodyAt, .selects RX4 yX4_melodyAt yX4_melodyAt, .initialized RX4, .code yX4_melodyAt cX4_melodyAt 3 (some (.object "BellStreet$Melody")), .fieldLink RX4 23 "BellStreet" "melodies" "[LBellStreet$Melody;", .methodLink RX4 77 yX3_tone, .instanceMethod yX3_tone, .selects RX3 yX3_tone yX3_tone, .initialized RX3, .code yX3_tone cX3_tone 2 (some .int), .fieldLink RX3 21 "BellStreet$Melody" "tones" "J"] ++ wsX30 ++ wsX40 ++ (vx_atS RX4 76 "java/lang/IndexOutOfBoundsException" ["java/lang/RuntimeException", "java/lang/Exception"]).filter goodWord)
def wsX4_shifted : List Cond := .code yX4_shifted cX4_shifted 4 (some .long) :: ([.classLink RX4 48 "java/lang/IllegalArgumentException", .initialized "java/lang/IllegalArgumentException", .methodLink RX4 65 yX4_melodyAt, .instanceMethod yX4_melodyAt, .selects RX4 yX4_melodyAt yX4_melodyAt, .initialized RX4, .code yX4_melodyAt cX4_melodyAt 3 (some (.object "BellStreet$Melody")), .classLink RX4 72 "java/lang/IndexOutOfBoundsException", .initialized "java/lang/IndexOutOfBoundsException", .fieldLink RX4 23 "BellStreet" "melodies" "[LBellStreet$Melody;", .methodLink RX4 83 yX3_tonesShifted, .instanceMethod yX3_tonesShifted, .selects RX3 yX3_tonesShifted yX3_tonesShifted, .initialized RX3, .code yX3_tonesShifted cX3_tonesShifted 5 (some .long), .fieldLink RX3 18 "BellStreet$Melody" "count" "I", .methodLink RX3 25 yX3_tone, .instanceMethod yX3_tone, .selects RX3 yX3_tone yX3_tone, .code yX3_tone cX3_tone 2 (some .int), .fieldLink RX3 21 "BellStreet$Melody" "tones" "J"] ++ wsX40 ++ wsX30 ++ (vx_atS RX4 52 "java/lang/IllegalArgumentException" ["java/lang/RuntimeException", "java/lang/Exception"]).filter goodWord ++ (vx_atS RX4 76 "java/lang/IndexOutOfBoundsException" ["java/lang/RuntimeException", "java/lang/Exception"]).filter goodWord)
def wsX4_turned : List Cond := .code yX4_turned cX4_turned 2 (some .long) :: ([.methodLink RX4 65 yX4_melodyAt, .instanceMethod yX4_melodyAt, .selects RX4 yX4_melodyAt yX4_melodyAt, .initialized RX4, .code yX4_melodyAt cX4_melodyAt 3 (some (.object "BellStreet$Melody")), .classLink RX4 72 "java/lang/IndexOutOfBoundsException", .initialized "java/lang/IndexOutOfBoundsException", .fieldLink RX4 23 "BellStreet" "melodies" "[LBellStreet$Melody;", .methodLink RX4 87 yX3_tonesTurned, .instanceMethod yX3_tonesTurned, .selects RX3 yX3_tonesTurned yX3_tonesTurned, .initialized RX3, .code yX3_tonesTurned cX3_tonesTurned 4 (some .long), .fieldLink RX3 18 "BellStreet$Melody" "count" "I", .methodLink RX3 25 yX3_tone, .instanceMethod yX3_tone, .selects RX3 yX3_tone yX3_tone, .code yX3_tone cX3_tone 2 (some .int), .fieldLink RX3 21 "BellStreet$Melody" "tones" "J"] ++ wsX40 ++ wsX30 ++ (vx_atS RX4 76 "java/lang/IndexOutOfBoundsException" ["java/lang/RuntimeException", "java/lang/Exception"]).filter goodWord)
def wsX4_areAlike : List Cond := .code yX4_areAlike cX4_areAlike 3 (some .boolean) :: ([.methodLink RX4 65 yX4_melodyAt, .instanceMethod yX4_melodyAt, .selects RX4 yX4_melodyAt yX4_melodyAt, .initialized RX4, .code yX4_melodyAt cX4_melodyAt 3 (some (.object "BellStreet$Melody")), .classLink RX4 72 "java/lang/IndexOutOfBoundsException", .initialized "java/lang/IndexOutOfBoundsException", .fieldLink RX4 23 "BellStreet" "melodies" "[LBellStreet$Melody;", .methodLink RX4 91 yX3_isShiftOf, .instanceMethod yX3_isShiftOf, .selects RX3 yX3_isShiftOf yX3_isShiftOf, .initialized RX3, .code yX3_isShiftOf cX3_isShiftOf 3 (some .boolean), .fieldLink RX3 18 "BellStreet$Melody" "count" "I", .fieldLink RX3 21 "BellStreet$Melody" "tones" "J", .methodLink RX3 25 yX3_tone, .instanceMethod yX3_tone, .selects RX3 yX3_tone yX3_tone, .code yX3_tone cX3_tone 2 (some .int), .methodLink RX3 29 yX3_tonesShifted, .instanceMethod yX3_tonesShifted, .selects RX3 yX3_tonesShifted yX3_tonesShifted, .code yX3_tonesShifted cX3_tonesShifted 5 (some .long)] ++ wsX40 ++ wsX30 ++ (vx_atS RX4 76 "java/lang/IndexOutOfBoundsException" ["java/lang/RuntimeException", "java/lang/Exception"]).filter goodWord)
def wsX4_houseAt : List Cond := .code yX4_houseAt cX4_houseAt 2 (some (.object "BellStreet$House")) :: ([.fieldLink RX4 11 "BellStreet" "houses" "[LBellStreet$House;", .methodLink RX4 45 yX4_checkHouse, .instanceMethod yX4_checkHouse, .selects RX4 yX4_checkHouse yX4_checkHouse, .initialized RX4, .code yX4_checkHouse cX4_checkHouse 2 none, .classLink RX4 72 "java/lang/IndexOutOfBoundsException", .initialized "java/lang/IndexOutOfBoundsException"] ++ wsX40 ++ (vx_atS RX4 76 "java/lang/IndexOutOfBoundsException" ["java/lang/RuntimeException", "java/lang/Exception"]).filter goodWord)
def wsX4_license : List Cond := .code yX4_license cX4_license 6 (some .int) :: ([.classLink RX4 48 "java/lang/IllegalArgumentException", .initialized "java/lang/IllegalArgumentException", .classLink RX4 57 "java/lang/IllegalStateException", .initialized "java/lang/IllegalStateException", .methodLink RX4 95 yX4_houseAt, .instanceMethod yX4_houseAt, .selects RX4 yX4_houseAt yX4_houseAt, .initialized RX4, .code yX4_houseAt cX4_houseAt 2 (some (.object "BellStreet$House")), .fieldLink RX4 11 "BellStreet" "houses" "[LBellStreet$House;", .methodLink RX4 45 yX4_checkHouse, .instanceMethod yX4_checkHouse, .selects RX4 yX4_checkHouse yX4_checkHouse, .code yX4_checkHouse cX4_checkHouse 2 none, .classLink RX4 72 "java/lang/IndexOutOfBoundsException", .initialized "java/lang/IndexOutOfBoundsException", .methodLink RX4 65 yX4_melodyAt, .instanceMethod yX4_melodyAt, .selects RX4 yX4_melodyAt yX4_melodyAt, .code yX4_melodyAt cX4_melodyAt 3 (some (.object "BellStreet$Melody")), .fieldLink RX4 23 "BellStreet" "melodies" "[LBellStreet$Melody;"] ++ wsX30 ++ wsX20 ++ wsX40 ++ (vx_atS RX4 52 "java/lang/IllegalArgumentException" ["java/lang/RuntimeException", "java/lang/Exception"]).filter goodWord ++ (vx_atS RX4 61 "java/lang/IllegalStateException" ["java/lang/RuntimeException", "java/lang/Exception"]).filter goodWord ++ (vx_atS RX4 76 "java/lang/IndexOutOfBoundsException" ["java/lang/RuntimeException", "java/lang/Exception"]).filter goodWord)
def wsX4_setQuiet_r1 : List Cond := [Cond.classLink RX4 48 "java/lang/IllegalArgumentException", Cond.initialized "java/lang/IllegalArgumentException", Cond.fieldLink RX4 38 "BellStreet" "now" "I", Cond.methodLink RX4 95 yX4_houseAt, Cond.instanceMethod yX4_houseAt, Cond.selects RX4 yX4_houseAt yX4_houseAt, Cond.initialized RX4, Cond.code yX4_houseAt cX4_houseAt 2 (some (.object "BellStreet$House")), Cond.fieldLink RX4 11 "BellStreet" "houses" "[LBellStreet$House;", Cond.methodLink RX4 45 yX4_checkHouse, Cond.instanceMethod yX4_checkHouse, Cond.selects RX4 yX4_checkHouse yX4_checkHouse, Cond.code yX4_checkHouse cX4_checkHouse 2 none, Cond.classLink RX4 72 "java/lang/IndexOutOfBoundsException", Cond.initialized "java/lang/IndexOutOfBoundsException", Cond.methodLink RX4 119 yX2_isQuietAt, Cond.instanceMethod yX2_isQuietAt, Cond.selects RX2 yX2_isQuietAt yX2_isQuietAt, Cond.initialized RX2, Cond.code yX2_isQuietAt cX2_isQuietAt 2 (some .boolean), Cond.methodLink RX2 57 yX2_quietSeconds, Cond.instanceMethod yX2_quietSeconds, Cond.selects RX2 yX2_quietSeconds yX2_quietSeconds, Cond.code yX2_quietSeconds cX2_quietSeconds 5 (some .int)]
def wsX4_setQuiet_r2 : List Cond := [Cond.fieldLink RX2 25 "BellStreet$House" "quietFrom" "I", Cond.fieldLink RX2 29 "BellStreet$House" "quietTo" "I", Cond.methodLink RX2 61 yX2_shared, Cond.static yX2_shared, Cond.code yX2_shared cX2_shared 4 (some .int), Cond.methodLink RX2 65 Lib.Math.min.name, Cond.static Lib.Math.min.name, Cond.initialized "java/lang/Math", Cond.code Lib.Math.min.name Lib.Math.min.code 2 (some .int), Cond.methodLink RX2 70 Lib.Math.max.name, Cond.static Lib.Math.max.name, Cond.code Lib.Math.max.name Lib.Math.max.code 2 (some .int)]
def wsX4_setQuiet : List Cond := .code yX4_setQuiet cX4_setQuiet 5 (some .boolean) :: ((wsX4_setQuiet_r1 ++ wsX4_setQuiet_r2) ++ wsX20 ++ wsX40 ++ (vx_atS RX4 52 "java/lang/IllegalArgumentException" ["java/lang/RuntimeException", "java/lang/Exception"]).filter goodWord ++ (vx_atS RX4 76 "java/lang/IndexOutOfBoundsException" ["java/lang/RuntimeException", "java/lang/Exception"]).filter goodWord)
def wsX4_bellAt : List Cond := .code yX4_bellAt cX4_bellAt 4 (some (.object "BellStreet$Bell")) :: ([.classLink RX4 72 "java/lang/IndexOutOfBoundsException", .initialized "java/lang/IndexOutOfBoundsException", .methodLink RX4 95 yX4_houseAt, .instanceMethod yX4_houseAt, .selects RX4 yX4_houseAt yX4_houseAt, .initialized RX4, .code yX4_houseAt cX4_houseAt 2 (some (.object "BellStreet$House")), .fieldLink RX4 11 "BellStreet" "houses" "[LBellStreet$House;", .methodLink RX4 45 yX4_checkHouse, .instanceMethod yX4_checkHouse, .selects RX4 yX4_checkHouse yX4_checkHouse, .code yX4_checkHouse cX4_checkHouse 2 none] ++ wsX20 ++ wsX40 ++ (vx_atS RX4 76 "java/lang/IndexOutOfBoundsException" ["java/lang/RuntimeException", "java/lang/Exception"]).filter goodWord)
def wsX4_lay : List Cond := .code yX4_lay cX4_lay 8 (some .int) :: ([.classLink RX4 48 "java/lang/IllegalArgumentException", .initialized "java/lang/IllegalArgumentException", .methodLink RX4 123 yX4_bellAt, .instanceMethod yX4_bellAt, .selects RX4 yX4_bellAt yX4_bellAt, .initialized RX4, .code yX4_bellAt cX4_bellAt 4 (some (.object "BellStreet$Bell")), .classLink RX4 72 "java/lang/IndexOutOfBoundsException", .initialized "java/lang/IndexOutOfBoundsException", .methodLink RX4 95 yX4_houseAt, .instanceMethod yX4_houseAt, .selects RX4 yX4_houseAt yX4_houseAt, .code yX4_houseAt cX4_houseAt 2 (some (.object "BellStreet$House")), .fieldLink RX4 11 "BellStreet" "houses" "[LBellStreet$House;", .methodLink RX4 45 yX4_checkHouse, .instanceMethod yX4_checkHouse, .selects RX4 yX4_checkHouse yX4_checkHouse, .code yX4_checkHouse cX4_checkHouse 2 none, .methodLink RX4 65 yX4_melodyAt, .instanceMethod yX4_melodyAt, .selects RX4 yX4_melodyAt yX4_melodyAt, .code yX4_melodyAt cX4_melodyAt 3 (some (.object "BellStreet$Melody")), .fieldLink RX4 23 "BellStreet" "melodies" "[LBellStreet$Melody;"] ++ wsX00 ++ wsX30 ++ wsX20 ++ wsX40 ++ (vx_atS RX4 52 "java/lang/IllegalArgumentException" ["java/lang/RuntimeException", "java/lang/Exception"]).filter goodWord ++ (vx_atS RX4 76 "java/lang/IndexOutOfBoundsException" ["java/lang/RuntimeException", "java/lang/Exception"]).filter goodWord)
def wsX4_press_r1 : List Cond := [Cond.classLink RX4 57 "java/lang/IllegalStateException", Cond.initialized "java/lang/IllegalStateException", Cond.fieldLink RX4 38 "BellStreet" "now" "I", Cond.methodLink RX4 95 yX4_houseAt, Cond.instanceMethod yX4_houseAt, Cond.selects RX4 yX4_houseAt yX4_houseAt, Cond.initialized RX4, Cond.code yX4_houseAt cX4_houseAt 2 (some (.object "BellStreet$House")), Cond.fieldLink RX4 11 "BellStreet" "houses" "[LBellStreet$House;", Cond.methodLink RX4 45 yX4_checkHouse, Cond.instanceMethod yX4_checkHouse, Cond.selects RX4 yX4_checkHouse yX4_checkHouse, Cond.code yX4_checkHouse cX4_checkHouse 2 none, Cond.classLink RX4 72 "java/lang/IndexOutOfBoundsException", Cond.initialized "java/lang/IndexOutOfBoundsException", Cond.methodLink RX4 123 yX4_bellAt, Cond.instanceMethod yX4_bellAt, Cond.selects RX4 yX4_bellAt yX4_bellAt, Cond.code yX4_bellAt cX4_bellAt 4 (some (.object "BellStreet$Bell")), Cond.methodLink RX4 119 yX2_isQuietAt, Cond.instanceMethod yX2_isQuietAt, Cond.selects RX2 yX2_isQuietAt yX2_isQuietAt, Cond.initialized RX2, Cond.code yX2_isQuietAt cX2_isQuietAt 2 (some .boolean)]
def wsX4_press_r2 : List Cond := [Cond.methodLink RX2 57 yX2_quietSeconds, Cond.instanceMethod yX2_quietSeconds, Cond.selects RX2 yX2_quietSeconds yX2_quietSeconds, Cond.code yX2_quietSeconds cX2_quietSeconds 5 (some .int), Cond.fieldLink RX2 25 "BellStreet$House" "quietFrom" "I", Cond.fieldLink RX2 29 "BellStreet$House" "quietTo" "I", Cond.methodLink RX2 61 yX2_shared, Cond.static yX2_shared, Cond.code yX2_shared cX2_shared 4 (some .int), Cond.methodLink RX2 65 Lib.Math.min.name, Cond.static Lib.Math.min.name, Cond.initialized "java/lang/Math", Cond.code Lib.Math.min.name Lib.Math.min.code 2 (some .int), Cond.methodLink RX2 70 Lib.Math.max.name, Cond.static Lib.Math.max.name, Cond.code Lib.Math.max.name Lib.Math.max.code 2 (some .int), Cond.methodLink RX4 153 yX2_mayRing, Cond.instanceMethod yX2_mayRing, Cond.selects RX2 yX2_mayRing yX2_mayRing, Cond.code yX2_mayRing cX2_mayRing 2 (some .boolean), Cond.fieldLink RX2 50 "BellStreet$House" "number" "I", Cond.fieldLink RX2 17 "BellStreet$House" "rights" "[I", Cond.methodLink RX4 156 yX2_ringingLoad, Cond.instanceMethod yX2_ringingLoad]
def wsX4_press_r3 : List Cond := [Cond.selects RX2 yX2_ringingLoad yX2_ringingLoad, Cond.code yX2_ringingLoad cX2_ringingLoad 6 (some .int), Cond.fieldLink RX2 11 "BellStreet$House" "bells" "[LBellStreet$Bell;", Cond.methodLink RX4 160 yX2_breakDown, Cond.instanceMethod yX2_breakDown, Cond.selects RX2 yX2_breakDown yX2_breakDown, Cond.code yX2_breakDown cX2_breakDown 5 none, Cond.fieldLink RX2 21 "BellStreet$House" "sound" "Z", Cond.methodLink RX4 163 yX2_useRight, Cond.instanceMethod yX2_useRight, Cond.selects RX2 yX2_useRight yX2_useRight, Cond.code yX2_useRight cX2_useRight 2 none, Cond.methodLink RX4 167 yX3_lasts, Cond.instanceMethod yX3_lasts, Cond.selects RX3 yX3_lasts yX3_lasts, Cond.initialized RX3, Cond.code yX3_lasts cX3_lasts 1 (some .int), Cond.fieldLink RX3 18 "BellStreet$Melody" "count" "I", Cond.methodLink RX4 170 yX0_ringUntil, Cond.instanceMethod yX0_ringUntil, Cond.selects RX0 yX0_ringUntil yX0_ringUntil, Cond.initialized RX0, Cond.code yX0_ringUntil cX0_ringUntil 2 none, Cond.fieldLink RX0 17 "BellStreet$Bell" "isRinging" "Z"]
def wsX4_press_r4 : List Cond := [Cond.fieldLink RX0 21 "BellStreet$Bell" "stopsAt" "I"]
def wsX4_press : List Cond := .code yX4_press cX4_press 6 (some .int) :: ((wsX4_press_r1 ++ (wsX4_press_r2 ++ (wsX4_press_r3 ++ wsX4_press_r4))) ++ wsX00 ++ wsX20 ++ wsX40 ++ wsX30 ++ (vx_atS RX4 61 "java/lang/IllegalStateException" ["java/lang/RuntimeException", "java/lang/Exception"]).filter goodWord ++ (vx_atS RX4 76 "java/lang/IndexOutOfBoundsException" ["java/lang/RuntimeException", "java/lang/Exception"]).filter goodWord)
def wsX4_fault_r1 : List Cond := [Cond.classLink RX4 57 "java/lang/IllegalStateException", Cond.initialized "java/lang/IllegalStateException", Cond.fieldLink RX4 35 "BellStreet" "faultCount" "I", Cond.fieldLink RX4 11 "BellStreet" "houses" "[LBellStreet$House;", Cond.fieldLink RX4 38 "BellStreet" "now" "I", Cond.fieldLink RX4 27 "BellStreet" "toldFaults" "[I", Cond.methodLink RX4 95 yX4_houseAt, Cond.instanceMethod yX4_houseAt, Cond.selects RX4 yX4_houseAt yX4_houseAt, Cond.initialized RX4, Cond.code yX4_houseAt cX4_houseAt 2 (some (.object "BellStreet$House")), Cond.methodLink RX4 45 yX4_checkHouse, Cond.instanceMethod yX4_checkHouse, Cond.selects RX4 yX4_checkHouse yX4_checkHouse, Cond.code yX4_checkHouse cX4_checkHouse 2 none, Cond.classLink RX4 72 "java/lang/IndexOutOfBoundsException", Cond.initialized "java/lang/IndexOutOfBoundsException", Cond.methodLink RX4 180 yX2_startBells, Cond.instanceMethod yX2_startBells, Cond.selects RX2 yX2_startBells yX2_startBells, Cond.initialized RX2, Cond.code yX2_startBells cX2_startBells 7 (some .int), Cond.fieldLink RX2 11 "BellStreet$House" "bells" "[LBellStreet$Bell;", Cond.methodLink RX2 89 yX3_lasts]
def wsX4_fault_r2 : List Cond := [Cond.instanceMethod yX3_lasts, Cond.selects RX3 yX3_lasts yX3_lasts, Cond.initialized RX3, Cond.code yX3_lasts cX3_lasts 1 (some .int), Cond.fieldLink RX3 18 "BellStreet$Melody" "count" "I", Cond.methodLink RX2 93 yX0_ringUntil, Cond.instanceMethod yX0_ringUntil, Cond.selects RX0 yX0_ringUntil yX0_ringUntil, Cond.initialized RX0, Cond.code yX0_ringUntil cX0_ringUntil 2 none, Cond.fieldLink RX0 17 "BellStreet$Bell" "isRinging" "Z", Cond.fieldLink RX0 21 "BellStreet$Bell" "stopsAt" "I", Cond.methodLink RX4 160 yX2_breakDown, Cond.instanceMethod yX2_breakDown, Cond.selects RX2 yX2_breakDown yX2_breakDown, Cond.code yX2_breakDown cX2_breakDown 5 none, Cond.fieldLink RX2 21 "BellStreet$House" "sound" "Z"]
def wsX4_fault : List Cond := .code yX4_fault cX4_fault 8 (some .int) :: ((wsX4_fault_r1 ++ wsX4_fault_r2) ++ wsX20 ++ wsX40 ++ wsX00 ++ wsX30 ++ (vx_atS RX4 61 "java/lang/IllegalStateException" ["java/lang/RuntimeException", "java/lang/Exception"]).filter goodWord ++ (vx_atS RX4 76 "java/lang/IndexOutOfBoundsException" ["java/lang/RuntimeException", "java/lang/Exception"]).filter goodWord)
def wsX4_repair : List Cond := .code yX4_repair cX4_repair 4 (some .int) :: ([.classLink RX4 57 "java/lang/IllegalStateException", .initialized "java/lang/IllegalStateException", .fieldLink RX4 17 "BellStreet" "crews" "[LBellStreet$Crew;", .fieldLink RX4 38 "BellStreet" "now" "I", .methodLink RX4 95 yX4_houseAt, .instanceMethod yX4_houseAt, .selects RX4 yX4_houseAt yX4_houseAt, .initialized RX4, .code yX4_houseAt cX4_houseAt 2 (some (.object "BellStreet$House")), .fieldLink RX4 11 "BellStreet" "houses" "[LBellStreet$House;", .methodLink RX4 45 yX4_checkHouse, .instanceMethod yX4_checkHouse, .selects RX4 yX4_checkHouse yX4_checkHouse, .code yX4_checkHouse cX4_checkHouse 2 none, .classLink RX4 72 "java/lang/IndexOutOfBoundsException", .initialized "java/lang/IndexOutOfBoundsException"] ++ wsX40 ++ wsX20 ++ wsX10 ++ (vx_atS RX4 61 "java/lang/IllegalStateException" ["java/lang/RuntimeException", "java/lang/Exception"]).filter goodWord ++ (vx_atS RX4 76 "java/lang/IndexOutOfBoundsException" ["java/lang/RuntimeException", "java/lang/Exception"]).filter goodWord)
def wsX4_nextChange : List Cond := .code yX4_nextChange cX4_nextChange 7 (some .int) :: ([.fieldLink RX4 38 "BellStreet" "now" "I", .methodLink RX4 232 Lib.Math.min.name, .static Lib.Math.min.name, .initialized "java/lang/Math", .code Lib.Math.min.name Lib.Math.min.code 2 (some .int), .fieldLink RX4 11 "BellStreet" "houses" "[LBellStreet$House;", .fieldLink RX4 17 "BellStreet" "crews" "[LBellStreet$Crew;", .methodLink RX4 238 yX2_firstStop, .instanceMethod yX2_firstStop, .selects RX2 yX2_firstStop yX2_firstStop, .initialized RX2, .code yX2_firstStop cX2_firstStop 7 (some .int), .fieldLink RX2 11 "BellStreet$House" "bells" "[LBellStreet$Bell;"] ++ wsX40 ++ wsX10 ++ wsX20 ++ wsX00)
def wsX4_passStretch_r1 : List Cond := [Cond.fieldLink RX4 11 "BellStreet" "houses" "[LBellStreet$House;", Cond.fieldLink RX4 38 "BellStreet" "now" "I", Cond.fieldLink RX4 17 "BellStreet" "crews" "[LBellStreet$Crew;", Cond.methodLink RX4 241 yX2_spend, Cond.instanceMethod yX2_spend, Cond.selects RX2 yX2_spend yX2_spend, Cond.initialized RX2, Cond.code yX2_spend cX2_spend 4 none, Cond.fieldLink RX2 35 "BellStreet$House" "rungSeconds" "I", Cond.fieldLink RX2 38 "BellStreet$House" "rungQuietSeconds" "I", Cond.fieldLink RX2 47 "BellStreet$House" "keptQuietToday" "Z", Cond.methodLink RX2 100 yX2_ringingSet, Cond.instanceMethod yX2_ringingSet, Cond.selects RX2 yX2_ringingSet yX2_ringingSet, Cond.code yX2_ringingSet cX2_ringingSet 3 (some .int), Cond.fieldLink RX2 11 "BellStreet$House" "bells" "[LBellStreet$Bell;", Cond.methodLink RX2 57 yX2_quietSeconds, Cond.instanceMethod yX2_quietSeconds, Cond.selects RX2 yX2_quietSeconds yX2_quietSeconds, Cond.code yX2_quietSeconds cX2_quietSeconds 5 (some .int), Cond.fieldLink RX2 25 "BellStreet$House" "quietFrom" "I", Cond.fieldLink RX2 29 "BellStreet$House" "quietTo" "I", Cond.methodLink RX2 61 yX2_shared, Cond.static yX2_shared]
def wsX4_passStretch_r2 : List Cond := [Cond.code yX2_shared cX2_shared 4 (some .int), Cond.methodLink RX2 65 Lib.Math.min.name, Cond.static Lib.Math.min.name, Cond.initialized "java/lang/Math", Cond.code Lib.Math.min.name Lib.Math.min.code 2 (some .int), Cond.methodLink RX2 70 Lib.Math.max.name, Cond.static Lib.Math.max.name, Cond.code Lib.Math.max.name Lib.Math.max.code 2 (some .int), Cond.methodLink RX4 245 yX2_stopEndedBells, Cond.instanceMethod yX2_stopEndedBells, Cond.selects RX2 yX2_stopEndedBells yX2_stopEndedBells, Cond.code yX2_stopEndedBells cX2_stopEndedBells 6 none, Cond.methodLink RX4 248 yX1_finish, Cond.instanceMethod yX1_finish, Cond.selects RX1 yX1_finish yX1_finish, Cond.initialized RX1, Cond.code yX1_finish cX1_finish 2 none, Cond.fieldLink RX1 7 "BellStreet$Crew" "goal" "LBellStreet$House;", Cond.fieldLink RX1 13 "BellStreet$Crew" "doneAt" "I", Cond.methodLink RX4 251 yX2_closeDay, Cond.instanceMethod yX2_closeDay, Cond.selects RX2 yX2_closeDay yX2_closeDay, Cond.code yX2_closeDay cX2_closeDay 1 none, Cond.fieldLink RX2 32 "BellStreet$House" "score" "I"]
def wsX4_passStretch_r3 : List Cond := [Cond.fieldLink RX2 44 "BellStreet$House" "faultsOfTheDay" "I"]
def wsX4_passStretch : List Cond := .code yX4_passStretch cX4_passStretch 6 none :: ((wsX4_passStretch_r1 ++ (wsX4_passStretch_r2 ++ wsX4_passStretch_r3)) ++ wsX40 ++ wsX20 ++ wsX00 ++ wsX10)
def wsX4_pass_r1 : List Cond := [Cond.classLink RX4 48 "java/lang/IllegalArgumentException", Cond.initialized "java/lang/IllegalArgumentException", Cond.classLink RX4 57 "java/lang/IllegalStateException", Cond.initialized "java/lang/IllegalStateException", Cond.fieldLink RX4 38 "BellStreet" "now" "I", Cond.constant RX4 199 (1000000), Cond.methodLink RX4 202 yX4_nextChange, Cond.instanceMethod yX4_nextChange, Cond.selects RX4 yX4_nextChange yX4_nextChange, Cond.initialized RX4, Cond.code yX4_nextChange cX4_nextChange 7 (some .int), Cond.methodLink RX4 232 Lib.Math.min.name, Cond.static Lib.Math.min.name, Cond.initialized "java/lang/Math", Cond.code Lib.Math.min.name Lib.Math.min.code 2 (some .int), Cond.fieldLink RX4 11 "BellStreet" "houses" "[LBellStreet$House;", Cond.fieldLink RX4 17 "BellStreet" "crews" "[LBellStreet$Crew;", Cond.methodLink RX4 238 yX2_firstStop, Cond.instanceMethod yX2_firstStop, Cond.selects RX2 yX2_firstStop yX2_firstStop, Cond.initialized RX2, Cond.code yX2_firstStop cX2_firstStop 7 (some .int), Cond.fieldLink RX2 11 "BellStreet$House" "bells" "[LBellStreet$Bell;", Cond.methodLink RX4 205 yX4_passStretch]
def wsX4_pass_r2 : List Cond := [Cond.instanceMethod yX4_passStretch, Cond.selects RX4 yX4_passStretch yX4_passStretch, Cond.code yX4_passStretch cX4_passStretch 6 none, Cond.methodLink RX4 241 yX2_spend, Cond.instanceMethod yX2_spend, Cond.selects RX2 yX2_spend yX2_spend, Cond.code yX2_spend cX2_spend 4 none, Cond.fieldLink RX2 35 "BellStreet$House" "rungSeconds" "I", Cond.fieldLink RX2 38 "BellStreet$House" "rungQuietSeconds" "I", Cond.fieldLink RX2 47 "BellStreet$House" "keptQuietToday" "Z", Cond.methodLink RX2 100 yX2_ringingSet, Cond.instanceMethod yX2_ringingSet, Cond.selects RX2 yX2_ringingSet yX2_ringingSet, Cond.code yX2_ringingSet cX2_ringingSet 3 (some .int), Cond.methodLink RX2 57 yX2_quietSeconds, Cond.instanceMethod yX2_quietSeconds, Cond.selects RX2 yX2_quietSeconds yX2_quietSeconds, Cond.code yX2_quietSeconds cX2_quietSeconds 5 (some .int), Cond.fieldLink RX2 25 "BellStreet$House" "quietFrom" "I", Cond.fieldLink RX2 29 "BellStreet$House" "quietTo" "I", Cond.methodLink RX2 61 yX2_shared, Cond.static yX2_shared, Cond.code yX2_shared cX2_shared 4 (some .int), Cond.methodLink RX2 65 Lib.Math.min.name]
def wsX4_pass_r3 : List Cond := [Cond.methodLink RX2 70 Lib.Math.max.name, Cond.static Lib.Math.max.name, Cond.code Lib.Math.max.name Lib.Math.max.code 2 (some .int), Cond.methodLink RX4 245 yX2_stopEndedBells, Cond.instanceMethod yX2_stopEndedBells, Cond.selects RX2 yX2_stopEndedBells yX2_stopEndedBells, Cond.code yX2_stopEndedBells cX2_stopEndedBells 6 none, Cond.methodLink RX4 248 yX1_finish, Cond.instanceMethod yX1_finish, Cond.selects RX1 yX1_finish yX1_finish, Cond.initialized RX1, Cond.code yX1_finish cX1_finish 2 none, Cond.fieldLink RX1 7 "BellStreet$Crew" "goal" "LBellStreet$House;", Cond.fieldLink RX1 13 "BellStreet$Crew" "doneAt" "I", Cond.methodLink RX4 251 yX2_closeDay, Cond.instanceMethod yX2_closeDay, Cond.selects RX2 yX2_closeDay yX2_closeDay, Cond.code yX2_closeDay cX2_closeDay 1 none, Cond.fieldLink RX2 32 "BellStreet$House" "score" "I", Cond.fieldLink RX2 44 "BellStreet$House" "faultsOfTheDay" "I"]
def wsX4_pass : List Cond := .code yX4_pass cX4_pass 4 (some .int) :: ((wsX4_pass_r1 ++ (wsX4_pass_r2 ++ wsX4_pass_r3)) ++ wsX40 ++ wsX10 ++ wsX20 ++ wsX00 ++ (vx_atS RX4 52 "java/lang/IllegalArgumentException" ["java/lang/RuntimeException", "java/lang/Exception"]).filter goodWord ++ (vx_atS RX4 61 "java/lang/IllegalStateException" ["java/lang/RuntimeException", "java/lang/Exception"]).filter goodWord)
def wsX4_time : List Cond := .code yX4_time cX4_time 1 (some .int) :: ([.fieldLink RX4 38 "BellStreet" "now" "I"] ++ wsX40)
def wsX4_ringing : List Cond := .code yX4_ringing cX4_ringing 2 (some .int) :: ([.methodLink RX4 95 yX4_houseAt, .instanceMethod yX4_houseAt, .selects RX4 yX4_houseAt yX4_houseAt, .initialized RX4, .code yX4_houseAt cX4_houseAt 2 (some (.object "BellStreet$House")), .fieldLink RX4 11 "BellStreet" "houses" "[LBellStreet$House;", .methodLink RX4 45 yX4_checkHouse, .instanceMethod yX4_checkHouse, .selects RX4 yX4_checkHouse yX4_checkHouse, .code yX4_checkHouse cX4_checkHouse 2 none, .classLink RX4 72 "java/lang/IndexOutOfBoundsException", .initialized "java/lang/IndexOutOfBoundsException", .methodLink RX4 208 yX2_ringingSet, .instanceMethod yX2_ringingSet, .selects RX2 yX2_ringingSet yX2_ringingSet, .initialized RX2, .code yX2_ringingSet cX2_ringingSet 3 (some .int), .fieldLink RX2 11 "BellStreet$House" "bells" "[LBellStreet$Bell;"] ++ wsX40 ++ wsX20 ++ wsX00 ++ (vx_atS RX4 76 "java/lang/IndexOutOfBoundsException" ["java/lang/RuntimeException", "java/lang/Exception"]).filter goodWord)
def wsX4_isSound : List Cond := .code yX4_isSound cX4_isSound 2 (some .boolean) :: ([.methodLink RX4 95 yX4_houseAt, .instanceMethod yX4_houseAt, .selects RX4 yX4_houseAt yX4_houseAt, .initialized RX4, .code yX4_houseAt cX4_houseAt 2 (some (.object "BellStreet$House")), .fieldLink RX4 11 "BellStreet" "houses" "[LBellStreet$House;", .methodLink RX4 45 yX4_checkHouse, .instanceMethod yX4_checkHouse, .selects RX4 yX4_checkHouse yX4_checkHouse, .code yX4_checkHouse cX4_checkHouse 2 none, .classLink RX4 72 "java/lang/IndexOutOfBoundsException", .initialized "java/lang/IndexOutOfBoundsException"] ++ wsX20 ++ wsX40 ++ (vx_atS RX4 76 "java/lang/IndexOutOfBoundsException" ["java/lang/RuntimeException", "java/lang/Exception"]).filter goodWord)
def wsX4_ringsLeft : List Cond := .code yX4_ringsLeft cX4_ringsLeft 4 (some .int) :: ([.methodLink RX4 95 yX4_houseAt, .instanceMethod yX4_houseAt, .selects RX4 yX4_houseAt yX4_houseAt, .initialized RX4, .code yX4_houseAt cX4_houseAt 2 (some (.object "BellStreet$House")), .fieldLink RX4 11 "BellStreet" "houses" "[LBellStreet$House;", .methodLink RX4 45 yX4_checkHouse, .instanceMethod yX4_checkHouse, .selects RX4 yX4_checkHouse yX4_checkHouse, .code yX4_checkHouse cX4_checkHouse 2 none, .classLink RX4 72 "java/lang/IndexOutOfBoundsException", .initialized "java/lang/IndexOutOfBoundsException", .methodLink RX4 65 yX4_melodyAt, .instanceMethod yX4_melodyAt, .selects RX4 yX4_melodyAt yX4_melodyAt, .code yX4_melodyAt cX4_melodyAt 3 (some (.object "BellStreet$Melody")), .fieldLink RX4 23 "BellStreet" "melodies" "[LBellStreet$Melody;"] ++ wsX30 ++ wsX20 ++ wsX40 ++ (vx_atS RX4 76 "java/lang/IndexOutOfBoundsException" ["java/lang/RuntimeException", "java/lang/Exception"]).filter goodWord)
def wsX4_points : List Cond := .code yX4_points cX4_points 2 (some .int) :: ([.methodLink RX4 95 yX4_houseAt, .instanceMethod yX4_houseAt, .selects RX4 yX4_houseAt yX4_houseAt, .initialized RX4, .code yX4_houseAt cX4_houseAt 2 (some (.object "BellStreet$House")), .fieldLink RX4 11 "BellStreet" "houses" "[LBellStreet$House;", .methodLink RX4 45 yX4_checkHouse, .instanceMethod yX4_checkHouse, .selects RX4 yX4_checkHouse yX4_checkHouse, .code yX4_checkHouse cX4_checkHouse 2 none, .classLink RX4 72 "java/lang/IndexOutOfBoundsException", .initialized "java/lang/IndexOutOfBoundsException"] ++ wsX20 ++ wsX40 ++ (vx_atS RX4 76 "java/lang/IndexOutOfBoundsException" ["java/lang/RuntimeException", "java/lang/Exception"]).filter goodWord)
def wsX4_secondsRung : List Cond := .code yX4_secondsRung cX4_secondsRung 2 (some .int) :: ([.methodLink RX4 95 yX4_houseAt, .instanceMethod yX4_houseAt, .selects RX4 yX4_houseAt yX4_houseAt, .initialized RX4, .code yX4_houseAt cX4_houseAt 2 (some (.object "BellStreet$House")), .fieldLink RX4 11 "BellStreet" "houses" "[LBellStreet$House;", .methodLink RX4 45 yX4_checkHouse, .instanceMethod yX4_checkHouse, .selects RX4 yX4_checkHouse yX4_checkHouse, .code yX4_checkHouse cX4_checkHouse 2 none, .classLink RX4 72 "java/lang/IndexOutOfBoundsException", .initialized "java/lang/IndexOutOfBoundsException"] ++ wsX20 ++ wsX40 ++ (vx_atS RX4 76 "java/lang/IndexOutOfBoundsException" ["java/lang/RuntimeException", "java/lang/Exception"]).filter goodWord)
def wsX4_quietBroken : List Cond := .code yX4_quietBroken cX4_quietBroken 2 (some .int) :: ([.methodLink RX4 95 yX4_houseAt, .instanceMethod yX4_houseAt, .selects RX4 yX4_houseAt yX4_houseAt, .initialized RX4, .code yX4_houseAt cX4_houseAt 2 (some (.object "BellStreet$House")), .fieldLink RX4 11 "BellStreet" "houses" "[LBellStreet$House;", .methodLink RX4 45 yX4_checkHouse, .instanceMethod yX4_checkHouse, .selects RX4 yX4_checkHouse yX4_checkHouse, .code yX4_checkHouse cX4_checkHouse 2 none, .classLink RX4 72 "java/lang/IndexOutOfBoundsException", .initialized "java/lang/IndexOutOfBoundsException"] ++ wsX20 ++ wsX40 ++ (vx_atS RX4 76 "java/lang/IndexOutOfBoundsException" ["java/lang/RuntimeException", "java/lang/Exception"]).filter goodWord)
def wsX4_hushed : List Cond := .code yX4_hushed cX4_hushed 2 (some .int) :: ([.methodLink RX4 95 yX4_houseAt, .instanceMethod yX4_houseAt, .selects RX4 yX4_houseAt yX4_houseAt, .initialized RX4, .code yX4_houseAt cX4_houseAt 2 (some (.object "BellStreet$House")), .fieldLink RX4 11 "BellStreet" "houses" "[LBellStreet$House;", .methodLink RX4 45 yX4_checkHouse, .instanceMethod yX4_checkHouse, .selects RX4 yX4_checkHouse yX4_checkHouse, .code yX4_checkHouse cX4_checkHouse 2 none, .classLink RX4 72 "java/lang/IndexOutOfBoundsException", .initialized "java/lang/IndexOutOfBoundsException"] ++ wsX20 ++ wsX40 ++ (vx_atS RX4 76 "java/lang/IndexOutOfBoundsException" ["java/lang/RuntimeException", "java/lang/Exception"]).filter goodWord)
def wsX4_faults : List Cond := .code yX4_faults cX4_faults 1 (some .int) :: ([.fieldLink RX4 35 "BellStreet" "faultCount" "I"] ++ wsX40)
def wsX4_faultAt : List Cond := .code yX4_faultAt cX4_faultAt 2 (some .int) :: ([.classLink RX4 72 "java/lang/IndexOutOfBoundsException", .initialized "java/lang/IndexOutOfBoundsException", .fieldLink RX4 35 "BellStreet" "faultCount" "I", .fieldLink RX4 27 "BellStreet" "toldFaults" "[I"] ++ wsX40 ++ (vx_atS RX4 76 "java/lang/IndexOutOfBoundsException" ["java/lang/RuntimeException", "java/lang/Exception"]).filter goodWord)
def wsJ9_max_7cf53 : List Cond := .code yJ9_max_7cf53 cJ9_max_7cf53 2 (some .int) :: ([])
def wsJ9_min_7cf53 : List Cond := .code yJ9_min_7cf53 cJ9_min_7cf53 2 (some .int) :: ([])
def wsL_low : List Cond := .code yL_low cL_low 2 (some .int) :: ([.constant RL 7 (2147483647)])
def wsL_cell : List Cond := .code yL_cell cL_cell 2 (some .int) :: ([.constant RL 8 (40503)])
def wsL_melody_r1 : List Cond := [Cond.classLink RL 15 "java/lang/IllegalStateException", Cond.methodLink RL 9 yX4_addMelody, Cond.instanceMethod yX4_addMelody, Cond.selects RX4 yX4_addMelody yX4_addMelody, Cond.initialized RX4, Cond.code yX4_addMelody cX4_addMelody 6 (some .int), Cond.classLink RX4 48 "java/lang/IllegalArgumentException", Cond.initialized "java/lang/IllegalArgumentException", Cond.classLink RX4 57 "java/lang/IllegalStateException", Cond.initialized "java/lang/IllegalStateException", Cond.fieldLink RX4 31 "BellStreet" "melodyCount" "I", Cond.fieldLink RX4 23 "BellStreet" "melodies" "[LBellStreet$Melody;", Cond.classLink RX4 21 RX3, Cond.instantiable RX3 4, Cond.initialized RX3, Cond.methodLink RX4 45 yX4_checkHouse, Cond.instanceMethod yX4_checkHouse, Cond.selects RX4 yX4_checkHouse yX4_checkHouse, Cond.code yX4_checkHouse cX4_checkHouse 2 none, Cond.classLink RX4 72 "java/lang/IndexOutOfBoundsException", Cond.initialized "java/lang/IndexOutOfBoundsException", Cond.methodLink RX4 62 yX3_init, Cond.instanceMethod yX3_init, Cond.code yX3_init cX3_init 6 none]
def wsL_melody_r2 : List Cond := [Cond.methodLink RX3 3 objectInit, Cond.instanceMethod objectInit, Cond.code objectInit ⟨#[0xb1]⟩ 1 none, Cond.fieldLink RX3 9 "BellStreet$Melody" "number" "I", Cond.fieldLink RX3 15 "BellStreet$Melody" "owner" "I", Cond.fieldLink RX3 18 "BellStreet$Melody" "count" "I", Cond.fieldLink RX3 21 "BellStreet$Melody" "tones" "J"]
def wsL_melody : List Cond := .codeWith yL_melody cL_melody 6 (some .int) [(0, 7, 8, 15)] :: ((wsL_melody_r1 ++ wsL_melody_r2) ++ wsX40 ++ wsX30 ++ (vx_atS RX4 52 "java/lang/IllegalArgumentException" ["java/lang/RuntimeException", "java/lang/Exception"]).filter goodWord ++ (vx_atS RX4 61 "java/lang/IllegalStateException" ["java/lang/RuntimeException", "java/lang/Exception"]).filter goodWord ++ (vx_atS RX4 76 "java/lang/IndexOutOfBoundsException" ["java/lang/RuntimeException", "java/lang/Exception"]).filter goodWord)
def wsL_license_r1 : List Cond := [Cond.classLink RL 15 "java/lang/IllegalStateException", Cond.methodLink RL 17 yX4_license, Cond.instanceMethod yX4_license, Cond.selects RX4 yX4_license yX4_license, Cond.initialized RX4, Cond.code yX4_license cX4_license 6 (some .int), Cond.classLink RX4 48 "java/lang/IllegalArgumentException", Cond.initialized "java/lang/IllegalArgumentException", Cond.classLink RX4 57 "java/lang/IllegalStateException", Cond.initialized "java/lang/IllegalStateException", Cond.methodLink RX4 95 yX4_houseAt, Cond.instanceMethod yX4_houseAt, Cond.selects RX4 yX4_houseAt yX4_houseAt, Cond.code yX4_houseAt cX4_houseAt 2 (some (.object "BellStreet$House")), Cond.fieldLink RX4 11 "BellStreet" "houses" "[LBellStreet$House;", Cond.methodLink RX4 45 yX4_checkHouse, Cond.instanceMethod yX4_checkHouse, Cond.selects RX4 yX4_checkHouse yX4_checkHouse, Cond.code yX4_checkHouse cX4_checkHouse 2 none, Cond.classLink RX4 72 "java/lang/IndexOutOfBoundsException", Cond.initialized "java/lang/IndexOutOfBoundsException", Cond.methodLink RX4 65 yX4_melodyAt, Cond.instanceMethod yX4_melodyAt, Cond.selects RX4 yX4_melodyAt yX4_melodyAt]
def wsL_license_r2 : List Cond := [Cond.code yX4_melodyAt cX4_melodyAt 3 (some (.object "BellStreet$Melody")), Cond.fieldLink RX4 23 "BellStreet" "melodies" "[LBellStreet$Melody;"]
def wsL_license : List Cond := .codeWith yL_license cL_license 5 (some .int) [(0, 7, 8, 15)] :: ((wsL_license_r1 ++ wsL_license_r2) ++ wsX30 ++ wsX20 ++ wsX40 ++ (vx_atS RX4 52 "java/lang/IllegalArgumentException" ["java/lang/RuntimeException", "java/lang/Exception"]).filter goodWord ++ (vx_atS RX4 61 "java/lang/IllegalStateException" ["java/lang/RuntimeException", "java/lang/Exception"]).filter goodWord ++ (vx_atS RX4 76 "java/lang/IndexOutOfBoundsException" ["java/lang/RuntimeException", "java/lang/Exception"]).filter goodWord)
def wsL_press_r1 : List Cond := [Cond.classLink RL 15 "java/lang/IllegalStateException", Cond.methodLink RL 21 yX4_press, Cond.instanceMethod yX4_press, Cond.selects RX4 yX4_press yX4_press, Cond.initialized RX4, Cond.code yX4_press cX4_press 6 (some .int), Cond.classLink RX4 57 "java/lang/IllegalStateException", Cond.initialized "java/lang/IllegalStateException", Cond.fieldLink RX4 38 "BellStreet" "now" "I", Cond.methodLink RX4 95 yX4_houseAt, Cond.instanceMethod yX4_houseAt, Cond.selects RX4 yX4_houseAt yX4_houseAt, Cond.code yX4_houseAt cX4_houseAt 2 (some (.object "BellStreet$House")), Cond.fieldLink RX4 11 "BellStreet" "houses" "[LBellStreet$House;", Cond.methodLink RX4 45 yX4_checkHouse, Cond.instanceMethod yX4_checkHouse, Cond.selects RX4 yX4_checkHouse yX4_checkHouse, Cond.code yX4_checkHouse cX4_checkHouse 2 none, Cond.classLink RX4 72 "java/lang/IndexOutOfBoundsException", Cond.initialized "java/lang/IndexOutOfBoundsException", Cond.methodLink RX4 123 yX4_bellAt, Cond.instanceMethod yX4_bellAt, Cond.selects RX4 yX4_bellAt yX4_bellAt, Cond.code yX4_bellAt cX4_bellAt 4 (some (.object "BellStreet$Bell"))]
def wsL_press_r2 : List Cond := [Cond.methodLink RX4 119 yX2_isQuietAt, Cond.instanceMethod yX2_isQuietAt, Cond.selects RX2 yX2_isQuietAt yX2_isQuietAt, Cond.initialized RX2, Cond.code yX2_isQuietAt cX2_isQuietAt 2 (some .boolean), Cond.methodLink RX2 57 yX2_quietSeconds, Cond.instanceMethod yX2_quietSeconds, Cond.selects RX2 yX2_quietSeconds yX2_quietSeconds, Cond.code yX2_quietSeconds cX2_quietSeconds 5 (some .int), Cond.fieldLink RX2 25 "BellStreet$House" "quietFrom" "I", Cond.fieldLink RX2 29 "BellStreet$House" "quietTo" "I", Cond.methodLink RX2 61 yX2_shared, Cond.static yX2_shared, Cond.code yX2_shared cX2_shared 4 (some .int), Cond.methodLink RX2 65 Lib.Math.min.name, Cond.static Lib.Math.min.name, Cond.initialized "java/lang/Math", Cond.code Lib.Math.min.name Lib.Math.min.code 2 (some .int), Cond.methodLink RX2 70 Lib.Math.max.name, Cond.static Lib.Math.max.name, Cond.code Lib.Math.max.name Lib.Math.max.code 2 (some .int), Cond.methodLink RX4 153 yX2_mayRing, Cond.instanceMethod yX2_mayRing, Cond.selects RX2 yX2_mayRing yX2_mayRing]
def wsL_press_r3 : List Cond := [Cond.code yX2_mayRing cX2_mayRing 2 (some .boolean), Cond.fieldLink RX2 50 "BellStreet$House" "number" "I", Cond.fieldLink RX2 17 "BellStreet$House" "rights" "[I", Cond.methodLink RX4 156 yX2_ringingLoad, Cond.instanceMethod yX2_ringingLoad, Cond.selects RX2 yX2_ringingLoad yX2_ringingLoad, Cond.code yX2_ringingLoad cX2_ringingLoad 6 (some .int), Cond.fieldLink RX2 11 "BellStreet$House" "bells" "[LBellStreet$Bell;", Cond.methodLink RX4 160 yX2_breakDown, Cond.instanceMethod yX2_breakDown, Cond.selects RX2 yX2_breakDown yX2_breakDown, Cond.code yX2_breakDown cX2_breakDown 5 none, Cond.fieldLink RX2 21 "BellStreet$House" "sound" "Z", Cond.methodLink RX4 163 yX2_useRight, Cond.instanceMethod yX2_useRight, Cond.selects RX2 yX2_useRight yX2_useRight, Cond.code yX2_useRight cX2_useRight 2 none, Cond.methodLink RX4 167 yX3_lasts, Cond.instanceMethod yX3_lasts, Cond.selects RX3 yX3_lasts yX3_lasts, Cond.initialized RX3, Cond.code yX3_lasts cX3_lasts 1 (some .int), Cond.fieldLink RX3 18 "BellStreet$Melody" "count" "I", Cond.methodLink RX4 170 yX0_ringUntil]
def wsL_press_r4 : List Cond := [Cond.instanceMethod yX0_ringUntil, Cond.selects RX0 yX0_ringUntil yX0_ringUntil, Cond.initialized RX0, Cond.code yX0_ringUntil cX0_ringUntil 2 none, Cond.fieldLink RX0 17 "BellStreet$Bell" "isRinging" "Z", Cond.fieldLink RX0 21 "BellStreet$Bell" "stopsAt" "I"]
def wsL_press : List Cond := .codeWith yL_press cL_press 4 (some .int) [(0, 6, 7, 15)] :: ((wsL_press_r1 ++ (wsL_press_r2 ++ (wsL_press_r3 ++ wsL_press_r4))) ++ wsX00 ++ wsX20 ++ wsX40 ++ wsX30 ++ (vx_atS RX4 61 "java/lang/IllegalStateException" ["java/lang/RuntimeException", "java/lang/Exception"]).filter goodWord ++ (vx_atS RX4 76 "java/lang/IndexOutOfBoundsException" ["java/lang/RuntimeException", "java/lang/Exception"]).filter goodWord)
def wsL_fault_r1 : List Cond := [Cond.classLink RL 15 "java/lang/IllegalStateException", Cond.methodLink RL 25 yX4_fault, Cond.instanceMethod yX4_fault, Cond.selects RX4 yX4_fault yX4_fault, Cond.initialized RX4, Cond.code yX4_fault cX4_fault 8 (some .int), Cond.classLink RX4 57 "java/lang/IllegalStateException", Cond.initialized "java/lang/IllegalStateException", Cond.fieldLink RX4 35 "BellStreet" "faultCount" "I", Cond.fieldLink RX4 11 "BellStreet" "houses" "[LBellStreet$House;", Cond.fieldLink RX4 38 "BellStreet" "now" "I", Cond.fieldLink RX4 27 "BellStreet" "toldFaults" "[I", Cond.methodLink RX4 95 yX4_houseAt, Cond.instanceMethod yX4_houseAt, Cond.selects RX4 yX4_houseAt yX4_houseAt, Cond.code yX4_houseAt cX4_houseAt 2 (some (.object "BellStreet$House")), Cond.methodLink RX4 45 yX4_checkHouse, Cond.instanceMethod yX4_checkHouse, Cond.selects RX4 yX4_checkHouse yX4_checkHouse, Cond.code yX4_checkHouse cX4_checkHouse 2 none, Cond.classLink RX4 72 "java/lang/IndexOutOfBoundsException", Cond.initialized "java/lang/IndexOutOfBoundsException", Cond.methodLink RX4 180 yX2_startBells, Cond.instanceMethod yX2_startBells]
def wsL_fault_r2 : List Cond := [Cond.selects RX2 yX2_startBells yX2_startBells, Cond.initialized RX2, Cond.code yX2_startBells cX2_startBells 7 (some .int), Cond.fieldLink RX2 11 "BellStreet$House" "bells" "[LBellStreet$Bell;", Cond.methodLink RX2 89 yX3_lasts, Cond.instanceMethod yX3_lasts, Cond.selects RX3 yX3_lasts yX3_lasts, Cond.initialized RX3, Cond.code yX3_lasts cX3_lasts 1 (some .int), Cond.fieldLink RX3 18 "BellStreet$Melody" "count" "I", Cond.methodLink RX2 93 yX0_ringUntil, Cond.instanceMethod yX0_ringUntil, Cond.selects RX0 yX0_ringUntil yX0_ringUntil, Cond.initialized RX0, Cond.code yX0_ringUntil cX0_ringUntil 2 none, Cond.fieldLink RX0 17 "BellStreet$Bell" "isRinging" "Z", Cond.fieldLink RX0 21 "BellStreet$Bell" "stopsAt" "I", Cond.methodLink RX4 160 yX2_breakDown, Cond.instanceMethod yX2_breakDown, Cond.selects RX2 yX2_breakDown yX2_breakDown, Cond.code yX2_breakDown cX2_breakDown 5 none, Cond.fieldLink RX2 21 "BellStreet$House" "sound" "Z"]
def wsL_fault : List Cond := .codeWith yL_fault cL_fault 3 (some .int) [(0, 5, 6, 15)] :: ((wsL_fault_r1 ++ wsL_fault_r2) ++ wsX20 ++ wsX40 ++ wsX00 ++ wsX30 ++ (vx_atS RX4 61 "java/lang/IllegalStateException" ["java/lang/RuntimeException", "java/lang/Exception"]).filter goodWord ++ (vx_atS RX4 76 "java/lang/IndexOutOfBoundsException" ["java/lang/RuntimeException", "java/lang/Exception"]).filter goodWord)
def wsL_repair : List Cond := .codeWith yL_repair cL_repair 3 (some .int) [(0, 5, 6, 15)] :: ([.classLink RL 15 "java/lang/IllegalStateException", .methodLink RL 29 yX4_repair, .instanceMethod yX4_repair, .selects RX4 yX4_repair yX4_repair, .initialized RX4, .code yX4_repair cX4_repair 4 (some .int), .classLink RX4 57 "java/lang/IllegalStateException", .initialized "java/lang/IllegalStateException", .fieldLink RX4 17 "BellStreet" "crews" "[LBellStreet$Crew;", .fieldLink RX4 38 "BellStreet" "now" "I", .methodLink RX4 95 yX4_houseAt, .instanceMethod yX4_houseAt, .selects RX4 yX4_houseAt yX4_houseAt, .code yX4_houseAt cX4_houseAt 2 (some (.object "BellStreet$House")), .fieldLink RX4 11 "BellStreet" "houses" "[LBellStreet$House;", .methodLink RX4 45 yX4_checkHouse, .instanceMethod yX4_checkHouse, .selects RX4 yX4_checkHouse yX4_checkHouse, .code yX4_checkHouse cX4_checkHouse 2 none, .classLink RX4 72 "java/lang/IndexOutOfBoundsException", .initialized "java/lang/IndexOutOfBoundsException"] ++ wsX40 ++ wsX20 ++ wsX10 ++ (vx_atS RX4 61 "java/lang/IllegalStateException" ["java/lang/RuntimeException", "java/lang/Exception"]).filter goodWord ++ (vx_atS RX4 76 "java/lang/IndexOutOfBoundsException" ["java/lang/RuntimeException", "java/lang/Exception"]).filter goodWord)
def wsL_bits : List Cond := .code yL_bits cL_bits 1 (some .int) :: ([])
def wsL_holds_r1 : List Cond := [Cond.methodLink RL 32 yX4_time, Cond.instanceMethod yX4_time, Cond.selects RX4 yX4_time yX4_time, Cond.initialized RX4, Cond.code yX4_time cX4_time 1 (some .int), Cond.fieldLink RX4 38 "BellStreet" "now" "I", Cond.methodLink RL 36 yX4_faults, Cond.instanceMethod yX4_faults, Cond.selects RX4 yX4_faults yX4_faults, Cond.code yX4_faults cX4_faults 1 (some .int), Cond.fieldLink RX4 35 "BellStreet" "faultCount" "I", Cond.methodLink RL 39 yX4_faultAt, Cond.instanceMethod yX4_faultAt, Cond.selects RX4 yX4_faultAt yX4_faultAt, Cond.code yX4_faultAt cX4_faultAt 2 (some .int), Cond.classLink RX4 72 "java/lang/IndexOutOfBoundsException", Cond.initialized "java/lang/IndexOutOfBoundsException", Cond.fieldLink RX4 27 "BellStreet" "toldFaults" "[I", Cond.methodLink RL 42 yX4_points, Cond.instanceMethod yX4_points, Cond.selects RX4 yX4_points yX4_points, Cond.code yX4_points cX4_points 2 (some .int), Cond.methodLink RX4 95 yX4_houseAt, Cond.instanceMethod yX4_houseAt]
def wsL_holds_r2 : List Cond := [Cond.selects RX4 yX4_houseAt yX4_houseAt, Cond.code yX4_houseAt cX4_houseAt 2 (some (.object "BellStreet$House")), Cond.fieldLink RX4 11 "BellStreet" "houses" "[LBellStreet$House;", Cond.methodLink RX4 45 yX4_checkHouse, Cond.instanceMethod yX4_checkHouse, Cond.selects RX4 yX4_checkHouse yX4_checkHouse, Cond.code yX4_checkHouse cX4_checkHouse 2 none, Cond.methodLink RL 45 yX4_isSound, Cond.instanceMethod yX4_isSound, Cond.selects RX4 yX4_isSound yX4_isSound, Cond.code yX4_isSound cX4_isSound 2 (some .boolean), Cond.methodLink RL 49 yX4_ringing, Cond.instanceMethod yX4_ringing, Cond.selects RX4 yX4_ringing yX4_ringing, Cond.code yX4_ringing cX4_ringing 2 (some .int), Cond.methodLink RX4 208 yX2_ringingSet, Cond.instanceMethod yX2_ringingSet, Cond.selects RX2 yX2_ringingSet yX2_ringingSet, Cond.initialized RX2, Cond.code yX2_ringingSet cX2_ringingSet 3 (some .int), Cond.fieldLink RX2 11 "BellStreet$House" "bells" "[LBellStreet$Bell;", Cond.methodLink RL 52 yX4_quietBroken, Cond.instanceMethod yX4_quietBroken, Cond.selects RX4 yX4_quietBroken yX4_quietBroken]
def wsL_holds_r3 : List Cond := [Cond.code yX4_quietBroken cX4_quietBroken 2 (some .int), Cond.methodLink RL 55 yX4_secondsRung, Cond.instanceMethod yX4_secondsRung, Cond.selects RX4 yX4_secondsRung yX4_secondsRung, Cond.code yX4_secondsRung cX4_secondsRung 2 (some .int), Cond.methodLink RL 58 yX4_hushed, Cond.instanceMethod yX4_hushed, Cond.selects RX4 yX4_hushed yX4_hushed, Cond.code yX4_hushed cX4_hushed 2 (some .int)]
def wsL_holds : List Cond := .code yL_holds cL_holds 6 (some .boolean) :: ((wsL_holds_r1 ++ (wsL_holds_r2 ++ wsL_holds_r3)) ++ wsX40 ++ wsX20 ++ wsX00 ++ (vx_atS RX4 76 "java/lang/IndexOutOfBoundsException" ["java/lang/RuntimeException", "java/lang/Exception"]).filter goodWord)
def wsL_melodies_r1 : List Cond := [Cond.constantLong RL 72 (15), Cond.methodLink RL 61 yX4_areAlike, Cond.instanceMethod yX4_areAlike, Cond.selects RX4 yX4_areAlike yX4_areAlike, Cond.initialized RX4, Cond.code yX4_areAlike cX4_areAlike 3 (some .boolean), Cond.methodLink RX4 65 yX4_melodyAt, Cond.instanceMethod yX4_melodyAt, Cond.selects RX4 yX4_melodyAt yX4_melodyAt, Cond.code yX4_melodyAt cX4_melodyAt 3 (some (.object "BellStreet$Melody")), Cond.classLink RX4 72 "java/lang/IndexOutOfBoundsException", Cond.initialized "java/lang/IndexOutOfBoundsException", Cond.fieldLink RX4 23 "BellStreet" "melodies" "[LBellStreet$Melody;", Cond.methodLink RX4 91 yX3_isShiftOf, Cond.instanceMethod yX3_isShiftOf, Cond.selects RX3 yX3_isShiftOf yX3_isShiftOf, Cond.initialized RX3, Cond.code yX3_isShiftOf cX3_isShiftOf 3 (some .boolean), Cond.fieldLink RX3 18 "BellStreet$Melody" "count" "I", Cond.fieldLink RX3 21 "BellStreet$Melody" "tones" "J", Cond.methodLink RX3 25 yX3_tone, Cond.instanceMethod yX3_tone, Cond.selects RX3 yX3_tone yX3_tone, Cond.code yX3_tone cX3_tone 2 (some .int)]
def wsL_melodies_r2 : List Cond := [Cond.methodLink RX3 29 yX3_tonesShifted, Cond.instanceMethod yX3_tonesShifted, Cond.selects RX3 yX3_tonesShifted yX3_tonesShifted, Cond.code yX3_tonesShifted cX3_tonesShifted 5 (some .long), Cond.methodLink RL 65 yX4_shifted, Cond.instanceMethod yX4_shifted, Cond.selects RX4 yX4_shifted yX4_shifted, Cond.code yX4_shifted cX4_shifted 4 (some .long), Cond.classLink RX4 48 "java/lang/IllegalArgumentException", Cond.initialized "java/lang/IllegalArgumentException", Cond.methodLink RX4 83 yX3_tonesShifted, Cond.methodLink RL 69 yX4_toneAt, Cond.instanceMethod yX4_toneAt, Cond.selects RX4 yX4_toneAt yX4_toneAt, Cond.code yX4_toneAt cX4_toneAt 4 (some .int), Cond.methodLink RX4 77 yX3_tone, Cond.methodLink RL 74 yX4_turned, Cond.instanceMethod yX4_turned, Cond.selects RX4 yX4_turned yX4_turned, Cond.code yX4_turned cX4_turned 2 (some .long), Cond.methodLink RX4 87 yX3_tonesTurned, Cond.instanceMethod yX3_tonesTurned, Cond.selects RX3 yX3_tonesTurned yX3_tonesTurned, Cond.code yX3_tonesTurned cX3_tonesTurned 4 (some .long)]
def wsL_melodies : List Cond := .code yL_melodies cL_melodies 10 (some .boolean) :: ((wsL_melodies_r1 ++ wsL_melodies_r2) ++ wsX40 ++ wsX30 ++ (vx_atS RX4 76 "java/lang/IndexOutOfBoundsException" ["java/lang/RuntimeException", "java/lang/Exception"]).filter goodWord ++ (vx_atS RX4 52 "java/lang/IllegalArgumentException" ["java/lang/RuntimeException", "java/lang/Exception"]).filter goodWord)
def wsL_presses_r1 : List Cond := [Cond.methodLink RL 49 yX4_ringing, Cond.instanceMethod yX4_ringing, Cond.selects RX4 yX4_ringing yX4_ringing, Cond.initialized RX4, Cond.code yX4_ringing cX4_ringing 2 (some .int), Cond.methodLink RX4 95 yX4_houseAt, Cond.instanceMethod yX4_houseAt, Cond.selects RX4 yX4_houseAt yX4_houseAt, Cond.code yX4_houseAt cX4_houseAt 2 (some (.object "BellStreet$House")), Cond.fieldLink RX4 11 "BellStreet" "houses" "[LBellStreet$House;", Cond.methodLink RX4 45 yX4_checkHouse, Cond.instanceMethod yX4_checkHouse, Cond.selects RX4 yX4_checkHouse yX4_checkHouse, Cond.code yX4_checkHouse cX4_checkHouse 2 none, Cond.classLink RX4 72 "java/lang/IndexOutOfBoundsException", Cond.initialized "java/lang/IndexOutOfBoundsException", Cond.methodLink RX4 208 yX2_ringingSet, Cond.instanceMethod yX2_ringingSet, Cond.selects RX2 yX2_ringingSet yX2_ringingSet, Cond.initialized RX2, Cond.code yX2_ringingSet cX2_ringingSet 3 (some .int), Cond.fieldLink RX2 11 "BellStreet$House" "bells" "[LBellStreet$Bell;", Cond.methodLink RL 58 yX4_hushed, Cond.instanceMethod yX4_hushed]
def wsL_presses_r2 : List Cond := [Cond.selects RX4 yX4_hushed yX4_hushed, Cond.code yX4_hushed cX4_hushed 2 (some .int), Cond.methodLink RL 45 yX4_isSound, Cond.instanceMethod yX4_isSound, Cond.selects RX4 yX4_isSound yX4_isSound, Cond.code yX4_isSound cX4_isSound 2 (some .boolean), Cond.methodLink RL 78 yL_press, Cond.static yL_press, Cond.initialized RL, Cond.codeWith yL_press cL_press 4 (some .int) [(0, 6, 7, 15)], Cond.classLink RL 15 "java/lang/IllegalStateException", Cond.methodLink RL 21 yX4_press, Cond.instanceMethod yX4_press, Cond.selects RX4 yX4_press yX4_press, Cond.code yX4_press cX4_press 6 (some .int), Cond.classLink RX4 57 "java/lang/IllegalStateException", Cond.initialized "java/lang/IllegalStateException", Cond.fieldLink RX4 38 "BellStreet" "now" "I", Cond.methodLink RX4 123 yX4_bellAt, Cond.instanceMethod yX4_bellAt, Cond.selects RX4 yX4_bellAt yX4_bellAt, Cond.code yX4_bellAt cX4_bellAt 4 (some (.object "BellStreet$Bell")), Cond.methodLink RX4 119 yX2_isQuietAt, Cond.instanceMethod yX2_isQuietAt]
def wsL_presses_r3 : List Cond := [Cond.selects RX2 yX2_isQuietAt yX2_isQuietAt, Cond.code yX2_isQuietAt cX2_isQuietAt 2 (some .boolean), Cond.methodLink RX2 57 yX2_quietSeconds, Cond.instanceMethod yX2_quietSeconds, Cond.selects RX2 yX2_quietSeconds yX2_quietSeconds, Cond.code yX2_quietSeconds cX2_quietSeconds 5 (some .int), Cond.fieldLink RX2 25 "BellStreet$House" "quietFrom" "I", Cond.fieldLink RX2 29 "BellStreet$House" "quietTo" "I", Cond.methodLink RX2 61 yX2_shared, Cond.static yX2_shared, Cond.code yX2_shared cX2_shared 4 (some .int), Cond.methodLink RX2 65 Lib.Math.min.name, Cond.static Lib.Math.min.name, Cond.initialized "java/lang/Math", Cond.code Lib.Math.min.name Lib.Math.min.code 2 (some .int), Cond.methodLink RX2 70 Lib.Math.max.name, Cond.static Lib.Math.max.name, Cond.code Lib.Math.max.name Lib.Math.max.code 2 (some .int), Cond.methodLink RX4 153 yX2_mayRing, Cond.instanceMethod yX2_mayRing, Cond.selects RX2 yX2_mayRing yX2_mayRing, Cond.code yX2_mayRing cX2_mayRing 2 (some .boolean), Cond.fieldLink RX2 50 "BellStreet$House" "number" "I", Cond.fieldLink RX2 17 "BellStreet$House" "rights" "[I"]
def wsL_presses_r4 : List Cond := [Cond.methodLink RX4 156 yX2_ringingLoad, Cond.instanceMethod yX2_ringingLoad, Cond.selects RX2 yX2_ringingLoad yX2_ringingLoad, Cond.code yX2_ringingLoad cX2_ringingLoad 6 (some .int), Cond.methodLink RX4 160 yX2_breakDown, Cond.instanceMethod yX2_breakDown, Cond.selects RX2 yX2_breakDown yX2_breakDown, Cond.code yX2_breakDown cX2_breakDown 5 none, Cond.fieldLink RX2 21 "BellStreet$House" "sound" "Z", Cond.methodLink RX4 163 yX2_useRight, Cond.instanceMethod yX2_useRight, Cond.selects RX2 yX2_useRight yX2_useRight, Cond.code yX2_useRight cX2_useRight 2 none, Cond.methodLink RX4 167 yX3_lasts, Cond.instanceMethod yX3_lasts, Cond.selects RX3 yX3_lasts yX3_lasts, Cond.initialized RX3, Cond.code yX3_lasts cX3_lasts 1 (some .int), Cond.fieldLink RX3 18 "BellStreet$Melody" "count" "I", Cond.methodLink RX4 170 yX0_ringUntil, Cond.instanceMethod yX0_ringUntil, Cond.selects RX0 yX0_ringUntil yX0_ringUntil, Cond.initialized RX0, Cond.code yX0_ringUntil cX0_ringUntil 2 none]
def wsL_presses_r5 : List Cond := [Cond.fieldLink RX0 17 "BellStreet$Bell" "isRinging" "Z", Cond.fieldLink RX0 21 "BellStreet$Bell" "stopsAt" "I"]
def wsL_presses : List Cond := .code yL_presses cL_presses 8 (some .boolean) :: ((wsL_presses_r1 ++ (wsL_presses_r2 ++ (wsL_presses_r3 ++ (wsL_presses_r4 ++ wsL_presses_r5)))) ++ wsX40 ++ wsX20 ++ wsX00 ++ wsX30 ++ (vx_atS RX4 76 "java/lang/IndexOutOfBoundsException" ["java/lang/RuntimeException", "java/lang/Exception"]).filter goodWord ++ (vx_atS RX4 61 "java/lang/IllegalStateException" ["java/lang/RuntimeException", "java/lang/Exception"]).filter goodWord)
def wsL_faulty_r1 : List Cond := [Cond.methodLink RL 36 yX4_faults, Cond.instanceMethod yX4_faults, Cond.selects RX4 yX4_faults yX4_faults, Cond.initialized RX4, Cond.code yX4_faults cX4_faults 1 (some .int), Cond.fieldLink RX4 35 "BellStreet" "faultCount" "I", Cond.methodLink RL 45 yX4_isSound, Cond.instanceMethod yX4_isSound, Cond.selects RX4 yX4_isSound yX4_isSound, Cond.code yX4_isSound cX4_isSound 2 (some .boolean), Cond.methodLink RX4 95 yX4_houseAt, Cond.instanceMethod yX4_houseAt, Cond.selects RX4 yX4_houseAt yX4_houseAt, Cond.code yX4_houseAt cX4_houseAt 2 (some (.object "BellStreet$House")), Cond.fieldLink RX4 11 "BellStreet" "houses" "[LBellStreet$House;", Cond.methodLink RX4 45 yX4_checkHouse, Cond.instanceMethod yX4_checkHouse, Cond.selects RX4 yX4_checkHouse yX4_checkHouse, Cond.code yX4_checkHouse cX4_checkHouse 2 none, Cond.classLink RX4 72 "java/lang/IndexOutOfBoundsException", Cond.initialized "java/lang/IndexOutOfBoundsException", Cond.methodLink RL 49 yX4_ringing, Cond.instanceMethod yX4_ringing, Cond.selects RX4 yX4_ringing yX4_ringing]
def wsL_faulty_r2 : List Cond := [Cond.code yX4_ringing cX4_ringing 2 (some .int), Cond.methodLink RX4 208 yX2_ringingSet, Cond.instanceMethod yX2_ringingSet, Cond.selects RX2 yX2_ringingSet yX2_ringingSet, Cond.initialized RX2, Cond.code yX2_ringingSet cX2_ringingSet 3 (some .int), Cond.fieldLink RX2 11 "BellStreet$House" "bells" "[LBellStreet$Bell;", Cond.methodLink RL 83 yL_bits, Cond.static yL_bits, Cond.initialized RL, Cond.code yL_bits cL_bits 1 (some .int), Cond.methodLink RL 86 yL_fault, Cond.static yL_fault, Cond.codeWith yL_fault cL_fault 3 (some .int) [(0, 5, 6, 15)], Cond.classLink RL 15 "java/lang/IllegalStateException", Cond.methodLink RL 25 yX4_fault, Cond.instanceMethod yX4_fault, Cond.selects RX4 yX4_fault yX4_fault, Cond.code yX4_fault cX4_fault 8 (some .int), Cond.classLink RX4 57 "java/lang/IllegalStateException", Cond.initialized "java/lang/IllegalStateException", Cond.fieldLink RX4 38 "BellStreet" "now" "I", Cond.fieldLink RX4 27 "BellStreet" "toldFaults" "[I", Cond.methodLink RX4 180 yX2_startBells]
def wsL_faulty_r3 : List Cond := [Cond.instanceMethod yX2_startBells, Cond.selects RX2 yX2_startBells yX2_startBells, Cond.code yX2_startBells cX2_startBells 7 (some .int), Cond.methodLink RX2 89 yX3_lasts, Cond.instanceMethod yX3_lasts, Cond.selects RX3 yX3_lasts yX3_lasts, Cond.initialized RX3, Cond.code yX3_lasts cX3_lasts 1 (some .int), Cond.fieldLink RX3 18 "BellStreet$Melody" "count" "I", Cond.methodLink RX2 93 yX0_ringUntil, Cond.instanceMethod yX0_ringUntil, Cond.selects RX0 yX0_ringUntil yX0_ringUntil, Cond.initialized RX0, Cond.code yX0_ringUntil cX0_ringUntil 2 none, Cond.fieldLink RX0 17 "BellStreet$Bell" "isRinging" "Z", Cond.fieldLink RX0 21 "BellStreet$Bell" "stopsAt" "I", Cond.methodLink RX4 160 yX2_breakDown, Cond.instanceMethod yX2_breakDown, Cond.selects RX2 yX2_breakDown yX2_breakDown, Cond.code yX2_breakDown cX2_breakDown 5 none, Cond.fieldLink RX2 21 "BellStreet$House" "sound" "Z", Cond.methodLink RL 39 yX4_faultAt, Cond.instanceMethod yX4_faultAt, Cond.selects RX4 yX4_faultAt yX4_faultAt]
def wsL_faulty_r4 : List Cond := [Cond.code yX4_faultAt cX4_faultAt 2 (some .int), Cond.methodLink RL 32 yX4_time, Cond.instanceMethod yX4_time, Cond.selects RX4 yX4_time yX4_time, Cond.code yX4_time cX4_time 1 (some .int)]
def wsL_faulty : List Cond := .code yL_faulty cL_faulty 8 (some .boolean) :: ((wsL_faulty_r1 ++ (wsL_faulty_r2 ++ (wsL_faulty_r3 ++ wsL_faulty_r4))) ++ wsX40 ++ wsX20 ++ wsX00 ++ wsX30 ++ (vx_atS RX4 76 "java/lang/IndexOutOfBoundsException" ["java/lang/RuntimeException", "java/lang/Exception"]).filter goodWord ++ (vx_atS RX4 61 "java/lang/IllegalStateException" ["java/lang/RuntimeException", "java/lang/Exception"]).filter goodWord)
def wsL_law0_r1 : List Cond := [Cond.classLink RL 10 RX4, Cond.instantiable RX4 7, Cond.initialized RX4, Cond.constant RL 101 (16777216), Cond.methodLink RL 89 yX4_init, Cond.instanceMethod yX4_init, Cond.code yX4_init cX4_init 2 none, Cond.methodLink RX4 1 objectInit, Cond.instanceMethod objectInit, Cond.code objectInit ⟨#[0xb1]⟩ 1 none, Cond.classLink RX4 9 RX2, Cond.fieldLink RX4 11 "BellStreet" "houses" "[LBellStreet$House;", Cond.classLink RX4 15 RX1, Cond.fieldLink RX4 17 "BellStreet" "crews" "[LBellStreet$Crew;", Cond.classLink RX4 21 RX3, Cond.fieldLink RX4 23 "BellStreet" "melodies" "[LBellStreet$Melody;", Cond.arrayClass .int, Cond.fieldLink RX4 27 "BellStreet" "toldFaults" "[I", Cond.fieldLink RX4 31 "BellStreet" "melodyCount" "I", Cond.fieldLink RX4 35 "BellStreet" "faultCount" "I", Cond.fieldLink RX4 38 "BellStreet" "now" "I", Cond.instantiable RX2 13, Cond.initialized RX2, Cond.instantiable RX1 2]
def wsL_law0_r2 : List Cond := [Cond.initialized RX1, Cond.methodLink RX4 41 yX2_init, Cond.instanceMethod yX2_init, Cond.code yX2_init cX2_init 3 none, Cond.methodLink RX2 3 objectInit, Cond.classLink RX2 9 RX0, Cond.fieldLink RX2 11 "BellStreet$House" "bells" "[LBellStreet$Bell;", Cond.fieldLink RX2 17 "BellStreet$House" "rights" "[I", Cond.fieldLink RX2 21 "BellStreet$House" "sound" "Z", Cond.fieldLink RX2 25 "BellStreet$House" "quietFrom" "I", Cond.fieldLink RX2 29 "BellStreet$House" "quietTo" "I", Cond.fieldLink RX2 32 "BellStreet$House" "score" "I", Cond.fieldLink RX2 35 "BellStreet$House" "rungSeconds" "I", Cond.fieldLink RX2 38 "BellStreet$House" "rungQuietSeconds" "I", Cond.fieldLink RX2 41 "BellStreet$House" "hushedPresses" "I", Cond.fieldLink RX2 44 "BellStreet$House" "faultsOfTheDay" "I", Cond.fieldLink RX2 47 "BellStreet$House" "keptQuietToday" "Z", Cond.fieldLink RX2 50 "BellStreet$House" "number" "I", Cond.fieldLink RX2 53 "BellStreet$House" "street" "I", Cond.instantiable RX0 4, Cond.initialized RX0, Cond.instanceMethod yX0_init, Cond.code yX0_init cX0_init 1 none, Cond.methodLink RX0 1 objectInit]
def wsL_law0_r3 : List Cond := [Cond.fieldLink RX0 7 "BellStreet$Bell" "melody" "LBellStreet$Melody;", Cond.fieldLink RX0 13 "BellStreet$Bell" "load" "I", Cond.fieldLink RX0 17 "BellStreet$Bell" "isRinging" "Z", Cond.fieldLink RX0 21 "BellStreet$Bell" "stopsAt" "I", Cond.instanceMethod yX1_init, Cond.code yX1_init cX1_init 1 none, Cond.methodLink RX1 1 objectInit, Cond.fieldLink RX1 7 "BellStreet$Crew" "goal" "LBellStreet$House;", Cond.fieldLink RX1 13 "BellStreet$Crew" "doneAt" "I", Cond.methodLink RL 90 yL_holds, Cond.static yL_holds, Cond.initialized RL, Cond.code yL_holds cL_holds 6 (some .boolean), Cond.methodLink RL 32 yX4_time, Cond.instanceMethod yX4_time, Cond.selects RX4 yX4_time yX4_time, Cond.code yX4_time cX4_time 1 (some .int), Cond.methodLink RL 36 yX4_faults, Cond.instanceMethod yX4_faults, Cond.selects RX4 yX4_faults yX4_faults, Cond.code yX4_faults cX4_faults 1 (some .int), Cond.methodLink RL 39 yX4_faultAt, Cond.instanceMethod yX4_faultAt, Cond.selects RX4 yX4_faultAt yX4_faultAt]
def wsL_law0_r4 : List Cond := [Cond.code yX4_faultAt cX4_faultAt 2 (some .int), Cond.classLink RX4 72 "java/lang/IndexOutOfBoundsException", Cond.initialized "java/lang/IndexOutOfBoundsException", Cond.methodLink RL 42 yX4_points, Cond.instanceMethod yX4_points, Cond.selects RX4 yX4_points yX4_points, Cond.code yX4_points cX4_points 2 (some .int), Cond.methodLink RX4 95 yX4_houseAt, Cond.instanceMethod yX4_houseAt, Cond.selects RX4 yX4_houseAt yX4_houseAt, Cond.code yX4_houseAt cX4_houseAt 2 (some (.object "BellStreet$House")), Cond.methodLink RX4 45 yX4_checkHouse, Cond.instanceMethod yX4_checkHouse, Cond.selects RX4 yX4_checkHouse yX4_checkHouse, Cond.code yX4_checkHouse cX4_checkHouse 2 none, Cond.methodLink RL 45 yX4_isSound, Cond.instanceMethod yX4_isSound, Cond.selects RX4 yX4_isSound yX4_isSound, Cond.code yX4_isSound cX4_isSound 2 (some .boolean), Cond.methodLink RL 49 yX4_ringing, Cond.instanceMethod yX4_ringing, Cond.selects RX4 yX4_ringing yX4_ringing, Cond.code yX4_ringing cX4_ringing 2 (some .int), Cond.methodLink RX4 208 yX2_ringingSet]
def wsL_law0_r5 : List Cond := [Cond.instanceMethod yX2_ringingSet, Cond.selects RX2 yX2_ringingSet yX2_ringingSet, Cond.code yX2_ringingSet cX2_ringingSet 3 (some .int), Cond.methodLink RL 52 yX4_quietBroken, Cond.instanceMethod yX4_quietBroken, Cond.selects RX4 yX4_quietBroken yX4_quietBroken, Cond.code yX4_quietBroken cX4_quietBroken 2 (some .int), Cond.methodLink RL 55 yX4_secondsRung, Cond.instanceMethod yX4_secondsRung, Cond.selects RX4 yX4_secondsRung yX4_secondsRung, Cond.code yX4_secondsRung cX4_secondsRung 2 (some .int), Cond.methodLink RL 58 yX4_hushed, Cond.instanceMethod yX4_hushed, Cond.selects RX4 yX4_hushed yX4_hushed, Cond.code yX4_hushed cX4_hushed 2 (some .int), Cond.methodLink RL 94 yL_cell, Cond.static yL_cell, Cond.code yL_cell cL_cell 2 (some .int), Cond.constant RL 8 (40503), Cond.methodLink RL 98 yL_low, Cond.static yL_low, Cond.code yL_low cL_low 2 (some .int), Cond.constant RL 7 (2147483647), Cond.methodLink RL 102 yL_melody]
def wsL_law0_r6 : List Cond := [Cond.static yL_melody, Cond.codeWith yL_melody cL_melody 6 (some .int) [(0, 7, 8, 15)], Cond.classLink RL 15 "java/lang/IllegalStateException", Cond.methodLink RL 9 yX4_addMelody, Cond.instanceMethod yX4_addMelody, Cond.selects RX4 yX4_addMelody yX4_addMelody, Cond.code yX4_addMelody cX4_addMelody 6 (some .int), Cond.classLink RX4 48 "java/lang/IllegalArgumentException", Cond.initialized "java/lang/IllegalArgumentException", Cond.classLink RX4 57 "java/lang/IllegalStateException", Cond.initialized "java/lang/IllegalStateException", Cond.instantiable RX3 4, Cond.initialized RX3, Cond.methodLink RX4 62 yX3_init, Cond.instanceMethod yX3_init, Cond.code yX3_init cX3_init 6 none, Cond.methodLink RX3 3 objectInit, Cond.fieldLink RX3 9 "BellStreet$Melody" "number" "I", Cond.fieldLink RX3 15 "BellStreet$Melody" "owner" "I", Cond.fieldLink RX3 18 "BellStreet$Melody" "count" "I", Cond.fieldLink RX3 21 "BellStreet$Melody" "tones" "J", Cond.methodLink RL 106 yL_melodies, Cond.static yL_melodies, Cond.code yL_melodies cL_melodies 10 (some .boolean)]
def wsL_law0_r7 : List Cond := [Cond.constantLong RL 72 (15), Cond.methodLink RL 61 yX4_areAlike, Cond.instanceMethod yX4_areAlike, Cond.selects RX4 yX4_areAlike yX4_areAlike, Cond.code yX4_areAlike cX4_areAlike 3 (some .boolean), Cond.methodLink RX4 65 yX4_melodyAt, Cond.instanceMethod yX4_melodyAt, Cond.selects RX4 yX4_melodyAt yX4_melodyAt, Cond.code yX4_melodyAt cX4_melodyAt 3 (some (.object "BellStreet$Melody")), Cond.methodLink RX4 91 yX3_isShiftOf, Cond.instanceMethod yX3_isShiftOf, Cond.selects RX3 yX3_isShiftOf yX3_isShiftOf, Cond.code yX3_isShiftOf cX3_isShiftOf 3 (some .boolean), Cond.methodLink RX3 25 yX3_tone, Cond.instanceMethod yX3_tone, Cond.selects RX3 yX3_tone yX3_tone, Cond.code yX3_tone cX3_tone 2 (some .int), Cond.methodLink RX3 29 yX3_tonesShifted, Cond.instanceMethod yX3_tonesShifted, Cond.selects RX3 yX3_tonesShifted yX3_tonesShifted, Cond.code yX3_tonesShifted cX3_tonesShifted 5 (some .long), Cond.methodLink RL 65 yX4_shifted, Cond.instanceMethod yX4_shifted, Cond.selects RX4 yX4_shifted yX4_shifted]
def wsL_law0_r8 : List Cond := [Cond.code yX4_shifted cX4_shifted 4 (some .long), Cond.methodLink RX4 83 yX3_tonesShifted, Cond.methodLink RL 69 yX4_toneAt, Cond.instanceMethod yX4_toneAt, Cond.selects RX4 yX4_toneAt yX4_toneAt, Cond.code yX4_toneAt cX4_toneAt 4 (some .int), Cond.methodLink RX4 77 yX3_tone, Cond.methodLink RL 74 yX4_turned, Cond.instanceMethod yX4_turned, Cond.selects RX4 yX4_turned yX4_turned, Cond.code yX4_turned cX4_turned 2 (some .long), Cond.methodLink RX4 87 yX3_tonesTurned, Cond.instanceMethod yX3_tonesTurned, Cond.selects RX3 yX3_tonesTurned yX3_tonesTurned, Cond.code yX3_tonesTurned cX3_tonesTurned 4 (some .long), Cond.methodLink RL 110 yX4_ringsLeft, Cond.instanceMethod yX4_ringsLeft, Cond.selects RX4 yX4_ringsLeft yX4_ringsLeft, Cond.code yX4_ringsLeft cX4_ringsLeft 4 (some .int), Cond.methodLink RL 113 yL_license, Cond.static yL_license, Cond.codeWith yL_license cL_license 5 (some .int) [(0, 7, 8, 15)], Cond.methodLink RL 17 yX4_license, Cond.instanceMethod yX4_license]
def wsL_law0_r9 : List Cond := [Cond.selects RX4 yX4_license yX4_license, Cond.code yX4_license cX4_license 6 (some .int), Cond.methodLink RL 116 yX4_lay, Cond.instanceMethod yX4_lay, Cond.selects RX4 yX4_lay yX4_lay, Cond.code yX4_lay cX4_lay 8 (some .int), Cond.methodLink RX4 123 yX4_bellAt, Cond.instanceMethod yX4_bellAt, Cond.selects RX4 yX4_bellAt yX4_bellAt, Cond.code yX4_bellAt cX4_bellAt 4 (some (.object "BellStreet$Bell")), Cond.methodLink RL 120 yL_presses, Cond.static yL_presses, Cond.code yL_presses cL_presses 8 (some .boolean), Cond.methodLink RL 78 yL_press, Cond.static yL_press, Cond.codeWith yL_press cL_press 4 (some .int) [(0, 6, 7, 15)], Cond.methodLink RL 21 yX4_press, Cond.instanceMethod yX4_press, Cond.selects RX4 yX4_press yX4_press, Cond.code yX4_press cX4_press 6 (some .int), Cond.methodLink RX4 119 yX2_isQuietAt, Cond.instanceMethod yX2_isQuietAt, Cond.selects RX2 yX2_isQuietAt yX2_isQuietAt, Cond.code yX2_isQuietAt cX2_isQuietAt 2 (some .boolean)]
def wsL_law0_r10 : List Cond := [Cond.methodLink RX2 57 yX2_quietSeconds, Cond.instanceMethod yX2_quietSeconds, Cond.selects RX2 yX2_quietSeconds yX2_quietSeconds, Cond.code yX2_quietSeconds cX2_quietSeconds 5 (some .int), Cond.methodLink RX2 61 yX2_shared, Cond.static yX2_shared, Cond.code yX2_shared cX2_shared 4 (some .int), Cond.methodLink RX2 65 Lib.Math.min.name, Cond.static Lib.Math.min.name, Cond.initialized "java/lang/Math", Cond.code Lib.Math.min.name Lib.Math.min.code 2 (some .int), Cond.methodLink RX2 70 Lib.Math.max.name, Cond.static Lib.Math.max.name, Cond.code Lib.Math.max.name Lib.Math.max.code 2 (some .int), Cond.methodLink RX4 153 yX2_mayRing, Cond.instanceMethod yX2_mayRing, Cond.selects RX2 yX2_mayRing yX2_mayRing, Cond.code yX2_mayRing cX2_mayRing 2 (some .boolean), Cond.methodLink RX4 156 yX2_ringingLoad, Cond.instanceMethod yX2_ringingLoad, Cond.selects RX2 yX2_ringingLoad yX2_ringingLoad, Cond.code yX2_ringingLoad cX2_ringingLoad 6 (some .int), Cond.methodLink RX4 160 yX2_breakDown, Cond.instanceMethod yX2_breakDown]
def wsL_law0_r11 : List Cond := [Cond.selects RX2 yX2_breakDown yX2_breakDown, Cond.code yX2_breakDown cX2_breakDown 5 none, Cond.methodLink RX4 163 yX2_useRight, Cond.instanceMethod yX2_useRight, Cond.selects RX2 yX2_useRight yX2_useRight, Cond.code yX2_useRight cX2_useRight 2 none, Cond.methodLink RX4 167 yX3_lasts, Cond.instanceMethod yX3_lasts, Cond.selects RX3 yX3_lasts yX3_lasts, Cond.code yX3_lasts cX3_lasts 1 (some .int), Cond.methodLink RX4 170 yX0_ringUntil, Cond.instanceMethod yX0_ringUntil, Cond.selects RX0 yX0_ringUntil yX0_ringUntil, Cond.code yX0_ringUntil cX0_ringUntil 2 none, Cond.methodLink RL 124 yL_faulty, Cond.static yL_faulty, Cond.code yL_faulty cL_faulty 8 (some .boolean), Cond.methodLink RL 83 yL_bits, Cond.static yL_bits, Cond.code yL_bits cL_bits 1 (some .int), Cond.methodLink RL 86 yL_fault, Cond.static yL_fault, Cond.codeWith yL_fault cL_fault 3 (some .int) [(0, 5, 6, 15)], Cond.methodLink RL 25 yX4_fault]
def wsL_law0_r12 : List Cond := [Cond.instanceMethod yX4_fault, Cond.selects RX4 yX4_fault yX4_fault, Cond.code yX4_fault cX4_fault 8 (some .int), Cond.methodLink RX4 180 yX2_startBells, Cond.instanceMethod yX2_startBells, Cond.selects RX2 yX2_startBells yX2_startBells, Cond.code yX2_startBells cX2_startBells 7 (some .int), Cond.methodLink RX2 89 yX3_lasts, Cond.methodLink RX2 93 yX0_ringUntil, Cond.methodLink RL 128 yL_repair, Cond.static yL_repair, Cond.codeWith yL_repair cL_repair 3 (some .int) [(0, 5, 6, 15)], Cond.methodLink RL 29 yX4_repair, Cond.instanceMethod yX4_repair, Cond.selects RX4 yX4_repair yX4_repair, Cond.code yX4_repair cX4_repair 4 (some .int), Cond.methodLink RL 130 yX4_setQuiet, Cond.instanceMethod yX4_setQuiet, Cond.selects RX4 yX4_setQuiet yX4_setQuiet, Cond.code yX4_setQuiet cX4_setQuiet 5 (some .boolean), Cond.methodLink RL 134 yX4_pass, Cond.instanceMethod yX4_pass, Cond.selects RX4 yX4_pass yX4_pass, Cond.code yX4_pass cX4_pass 4 (some .int)]
def wsL_law0_r13 : List Cond := [Cond.constant RX4 199 (1000000), Cond.methodLink RX4 202 yX4_nextChange, Cond.instanceMethod yX4_nextChange, Cond.selects RX4 yX4_nextChange yX4_nextChange, Cond.code yX4_nextChange cX4_nextChange 7 (some .int), Cond.methodLink RX4 232 Lib.Math.min.name, Cond.methodLink RX4 238 yX2_firstStop, Cond.instanceMethod yX2_firstStop, Cond.selects RX2 yX2_firstStop yX2_firstStop, Cond.code yX2_firstStop cX2_firstStop 7 (some .int), Cond.methodLink RX4 205 yX4_passStretch, Cond.instanceMethod yX4_passStretch, Cond.selects RX4 yX4_passStretch yX4_passStretch, Cond.code yX4_passStretch cX4_passStretch 6 none, Cond.methodLink RX4 241 yX2_spend, Cond.instanceMethod yX2_spend, Cond.selects RX2 yX2_spend yX2_spend, Cond.code yX2_spend cX2_spend 4 none, Cond.methodLink RX2 100 yX2_ringingSet, Cond.methodLink RX4 245 yX2_stopEndedBells, Cond.instanceMethod yX2_stopEndedBells, Cond.selects RX2 yX2_stopEndedBells yX2_stopEndedBells, Cond.code yX2_stopEndedBells cX2_stopEndedBells 6 none, Cond.methodLink RX4 248 yX1_finish]
def wsL_law0_r14 : List Cond := [Cond.instanceMethod yX1_finish, Cond.selects RX1 yX1_finish yX1_finish, Cond.code yX1_finish cX1_finish 2 none, Cond.methodLink RX4 251 yX2_closeDay, Cond.instanceMethod yX2_closeDay, Cond.selects RX2 yX2_closeDay yX2_closeDay, Cond.code yX2_closeDay cX2_closeDay 1 none]
def wsL_law0 : List Cond := (wsL_law0_r1 ++ (wsL_law0_r2 ++ (wsL_law0_r3 ++ (wsL_law0_r4 ++ (wsL_law0_r5 ++ (wsL_law0_r6 ++ (wsL_law0_r7 ++ (wsL_law0_r8 ++ (wsL_law0_r9 ++ (wsL_law0_r10 ++ (wsL_law0_r11 ++ (wsL_law0_r12 ++ (wsL_law0_r13 ++ wsL_law0_r14))))))))))))) ++ wsX40 ++ wsX20 ++ wsX10 ++ wsX00 ++ wsX30 ++ ([] : List Cond)
def wsL_law : List Cond := wsL_law0 ++ (vx_atS RX4 76 "java/lang/IndexOutOfBoundsException" ["java/lang/RuntimeException", "java/lang/Exception"]).filter goodWord ++ (vx_atS RX4 52 "java/lang/IllegalArgumentException" ["java/lang/RuntimeException", "java/lang/Exception"]).filter goodWord ++ (vx_atS RX4 61 "java/lang/IllegalStateException" ["java/lang/RuntimeException", "java/lang/Exception"]).filter goodWord
theorem wsL_in_r1 : ∀ w ∈ wsL_law0_r1, w ∈ lw_tbl := fun w h => (goodIn_p wsL_law0_r1 [25, 28] (by decide +kernel) (by decide +kernel) w h).1
theorem wsL_in_r2 : ∀ w ∈ wsL_law0_r2, w ∈ lw_tbl := fun w h => (goodIn_p wsL_law0_r2 [38, 45] (by decide +kernel) (by decide +kernel) w h).1
theorem wsL_in_r3 : ∀ w ∈ wsL_law0_r3, w ∈ lw_tbl := fun w h => (goodIn_p wsL_law0_r3 [123, 419, 342, 423] (by decide +kernel) (by decide +kernel) w h).1
theorem wsL_in_r4 : ∀ w ∈ wsL_law0_r4, w ∈ lw_tbl := fun w h => (goodIn_p wsL_law0_r4 [427, 432, 163, 167, 351, 346] (by decide +kernel) (by decide +kernel) w h).1
theorem wsL_in_r5 : ∀ w ∈ wsL_law0_r5, w ∈ lw_tbl := fun w h => (goodIn_p wsL_law0_r5 [326, 436, 440, 444, 362, 358] (by decide +kernel) (by decide +kernel) w h).1
theorem wsL_in_r6 : ∀ w ∈ wsL_law0_r6, w ∈ lw_tbl := fun w h => (goodIn_p wsL_law0_r6 [371, 378, 447] (by decide +kernel) (by decide +kernel) w h).1
theorem wsL_in_r7 : ∀ w ∈ wsL_law0_r7, w ∈ lw_tbl := fun w h => (goodIn_p wsL_law0_r7 [451, 281, 455, 459, 463] (by decide +kernel) (by decide +kernel) w h).1
theorem wsL_in_r8 : ∀ w ∈ wsL_law0_r8, w ∈ lw_tbl := fun w h => (goodIn_p wsL_law0_r8 [467, 473, 480, 484, 355] (by decide +kernel) (by decide +kernel) w h).1
theorem wsL_in_r9 : ∀ w ∈ wsL_law0_r9, w ∈ lw_tbl := fun w h => (goodIn_p wsL_law0_r9 [404, 272, 276, 487, 494, 255] (by decide +kernel) (by decide +kernel) w h).1
theorem wsL_in_r10 : ∀ w ∈ wsL_law0_r10, w ∈ lw_tbl := fun w h => (goodIn_p wsL_law0_r10 [259, 262, 265, 268, 499, 503] (by decide +kernel) (by decide +kernel) w h).1
theorem wsL_in_r11 : ∀ w ∈ wsL_law0_r11, w ∈ lw_tbl := fun w h => (goodIn_p wsL_law0_r11 [507, 511, 515, 519, 522, 525] (by decide +kernel) (by decide +kernel) w h).1
theorem wsL_in_r12 : ∀ w ∈ wsL_law0_r12, w ∈ lw_tbl := fun w h => (goodIn_p wsL_law0_r12 [532, 538, 414, 159, 287] (by decide +kernel) (by decide +kernel) w h).1
theorem wsL_in_r13 : ∀ w ∈ wsL_law0_r13, w ∈ lw_tbl := fun w h => (goodIn_p wsL_law0_r13 [309, 314, 318, 322, 330] (by decide +kernel) (by decide +kernel) w h).1
theorem wsL_in_r14 : ∀ w ∈ wsL_law0_r14, w ∈ lw_tbl := fun w h => (goodIn_p wsL_law0_r14 [334, 338] (by decide +kernel) (by decide +kernel) w h).1
theorem in_ap {a b T : List Cond} (ha : ∀ w ∈ a, w ∈ T) (hb : ∀ w ∈ b, w ∈ T) : ∀ w ∈ a ++ b, w ∈ T := fun w h => (List.mem_append.mp h).elim (ha w) (hb w)
theorem wsL_in_x4 : ∀ w ∈ wsX40, w ∈ lw_tbl := by decide +kernel
theorem wsL_in_x2 : ∀ w ∈ wsX20, w ∈ lw_tbl := by decide +kernel
theorem wsL_in_x1 : ∀ w ∈ wsX10, w ∈ lw_tbl := by decide +kernel
theorem wsL_in_x0 : ∀ w ∈ wsX00, w ∈ lw_tbl := by decide +kernel
theorem wsL_in_x3 : ∀ w ∈ wsX30, w ∈ lw_tbl := by decide +kernel
theorem wsL_law_in0 : ∀ w ∈ wsL_law0, w ∈ lw_tbl := in_ap (in_ap (in_ap (in_ap (in_ap (in_ap (in_ap wsL_in_r1 (in_ap wsL_in_r2 (in_ap wsL_in_r3 (in_ap wsL_in_r4 (in_ap wsL_in_r5 (in_ap wsL_in_r6 (in_ap wsL_in_r7 (in_ap wsL_in_r8 (in_ap wsL_in_r9 (in_ap wsL_in_r10 (in_ap wsL_in_r11 (in_ap wsL_in_r12 (in_ap wsL_in_r13 (wsL_in_r14)))))))))))))) wsL_in_x4) wsL_in_x2) wsL_in_x1) wsL_in_x0) wsL_in_x3) (fun _ h => absurd h List.not_mem_nil)
theorem wsL_law_x0 : ∀ w ∈ (vx_atS RX4 76 "java/lang/IndexOutOfBoundsException" ["java/lang/RuntimeException", "java/lang/Exception"]).filter goodWord, w ∈ lw_tbl := by decide +kernel
theorem wsL_law_x1 : ∀ w ∈ (vx_atS RX4 52 "java/lang/IllegalArgumentException" ["java/lang/RuntimeException", "java/lang/Exception"]).filter goodWord, w ∈ lw_tbl := by decide +kernel
theorem wsL_law_x2 : ∀ w ∈ (vx_atS RX4 61 "java/lang/IllegalStateException" ["java/lang/RuntimeException", "java/lang/Exception"]).filter goodWord, w ∈ lw_tbl := by decide +kernel
theorem wsL_law_in : ∀ w ∈ wsL_law, w ∈ lw_tbl := fun w h => (List.mem_append.mp h).elim (fun h => (List.mem_append.mp h).elim (fun h => (List.mem_append.mp h).elim (fun h => wsL_law_in0 w h) (fun h => wsL_law_x0 w h)) (fun h => wsL_law_x1 w h)) (fun h => wsL_law_x2 w h)
theorem inlX0 : ∀ w ∈ wsX00, w ∈ wsL_law := fun _ h => List.mem_append_left _ (List.mem_append_left _ (List.mem_append_left _ (List.mem_append_left _ (List.mem_append_left _ (List.mem_append_right _ h)))))
theorem inX0 : ∀ w ∈ wsX00, w ∈ lw_tbl := fun w h => wsL_law_in w (inlX0 w h)
theorem inlX1 : ∀ w ∈ wsX10, w ∈ wsL_law := fun _ h => List.mem_append_left _ (List.mem_append_left _ (List.mem_append_left _ (List.mem_append_left _ (List.mem_append_left _ (List.mem_append_left _ (List.mem_append_right _ h))))))
theorem inX1 : ∀ w ∈ wsX10, w ∈ lw_tbl := fun w h => wsL_law_in w (inlX1 w h)
theorem inlX2 : ∀ w ∈ wsX20, w ∈ wsL_law := fun _ h => List.mem_append_left _ (List.mem_append_left _ (List.mem_append_left _ (List.mem_append_left _ (List.mem_append_left _ (List.mem_append_left _ (List.mem_append_left _ (List.mem_append_right _ h)))))))
theorem inX2 : ∀ w ∈ wsX20, w ∈ lw_tbl := fun w h => wsL_law_in w (inlX2 w h)
theorem inlX3 : ∀ w ∈ wsX30, w ∈ wsL_law := fun _ h => List.mem_append_left _ (List.mem_append_left _ (List.mem_append_left _ (List.mem_append_left _ (List.mem_append_right _ h))))
theorem inX3 : ∀ w ∈ wsX30, w ∈ lw_tbl := fun w h => wsL_law_in w (inlX3 w h)
theorem inlX4 : ∀ w ∈ wsX40, w ∈ wsL_law := fun _ h => List.mem_append_left _ (List.mem_append_left _ (List.mem_append_left _ (List.mem_append_left _ (List.mem_append_left _ (List.mem_append_left _ (List.mem_append_left _ (List.mem_append_left _ (List.mem_append_right _ h))))))))
theorem inX4 : ∀ w ∈ wsX40, w ∈ lw_tbl := fun w h => wsL_law_in w (inlX4 w h)
theorem inX5 : ∀ w ∈ wsX50, w ∈ lw_tbl := by decide +kernel
theorem inJ9 : ∀ w ∈ wsJ90, w ∈ lw_tbl := by decide +kernel
theorem inJ0 : ∀ w ∈ wsJ00, w ∈ lw_tbl := by decide +kernel
theorem dX0_init_0 : decode cX0_init 0 = .ok (.aload_n 0, 1) := by decide +kernel
theorem dX0_init_1 : decode cX0_init 1 = .ok (.invokespecial 1, 3) := by decide +kernel
theorem dX0_init_4 : decode cX0_init 4 = .ok (.aload_n 0, 1) := by decide +kernel
theorem dX0_init_5 : decode cX0_init 5 = .ok (.aconst_null, 1) := by decide +kernel
theorem dX0_init_6 : decode cX0_init 6 = .ok (.putfield 7, 3) := by decide +kernel
theorem dX0_init_9 : decode cX0_init 9 = .ok (.aload_n 0, 1) := by decide +kernel
theorem dX0_init_10 : decode cX0_init 10 = .ok (.iconst 1, 1) := by decide +kernel
theorem dX0_init_11 : decode cX0_init 11 = .ok (.putfield 13, 3) := by decide +kernel
theorem dX0_init_14 : decode cX0_init 14 = .ok (.aload_n 0, 1) := by decide +kernel
theorem dX0_init_15 : decode cX0_init 15 = .ok (.iconst 0, 1) := by decide +kernel
theorem dX0_init_16 : decode cX0_init 16 = .ok (.putfield 17, 3) := by decide +kernel
theorem dX0_init_19 : decode cX0_init 19 = .ok (.aload_n 0, 1) := by decide +kernel
theorem dX0_init_20 : decode cX0_init 20 = .ok (.iconst 0, 1) := by decide +kernel
theorem dX0_init_21 : decode cX0_init 21 = .ok (.putfield 21, 3) := by decide +kernel
theorem dX0_init_24 : decode cX0_init 24 = .ok (.return_, 1) := by decide +kernel
theorem dX0_ringUntil_0 : decode cX0_ringUntil 0 = .ok (.aload_n 0, 1) := by decide +kernel
theorem dX0_ringUntil_1 : decode cX0_ringUntil 1 = .ok (.iconst 1, 1) := by decide +kernel
theorem dX0_ringUntil_2 : decode cX0_ringUntil 2 = .ok (.putfield 17, 3) := by decide +kernel
theorem dX0_ringUntil_5 : decode cX0_ringUntil 5 = .ok (.aload_n 0, 1) := by decide +kernel
theorem dX0_ringUntil_6 : decode cX0_ringUntil 6 = .ok (.iload_n 1, 1) := by decide +kernel
theorem dX0_ringUntil_7 : decode cX0_ringUntil 7 = .ok (.putfield 21, 3) := by decide +kernel
theorem dX0_ringUntil_10 : decode cX0_ringUntil 10 = .ok (.return_, 1) := by decide +kernel
theorem dX1_init_0 : decode cX1_init 0 = .ok (.aload_n 0, 1) := by decide +kernel
theorem dX1_init_1 : decode cX1_init 1 = .ok (.invokespecial 1, 3) := by decide +kernel
theorem dX1_init_4 : decode cX1_init 4 = .ok (.aload_n 0, 1) := by decide +kernel
theorem dX1_init_5 : decode cX1_init 5 = .ok (.aconst_null, 1) := by decide +kernel
theorem dX1_init_6 : decode cX1_init 6 = .ok (.putfield 7, 3) := by decide +kernel
theorem dX1_init_9 : decode cX1_init 9 = .ok (.aload_n 0, 1) := by decide +kernel
theorem dX1_init_10 : decode cX1_init 10 = .ok (.iconst 0, 1) := by decide +kernel
theorem dX1_init_11 : decode cX1_init 11 = .ok (.putfield 13, 3) := by decide +kernel
theorem dX1_init_14 : decode cX1_init 14 = .ok (.return_, 1) := by decide +kernel
theorem dX1_finish_0 : decode cX1_finish 0 = .ok (.aload_n 0, 1) := by decide +kernel
theorem dX1_finish_1 : decode cX1_finish 1 = .ok (.getfield 7, 3) := by decide +kernel
theorem dX1_finish_4 : decode cX1_finish 4 = .ok (.ifnull 24, 3) := by decide +kernel
theorem dX1_finish_7 : decode cX1_finish 7 = .ok (.aload_n 0, 1) := by decide +kernel
theorem dX1_finish_8 : decode cX1_finish 8 = .ok (.getfield 13, 3) := by decide +kernel
theorem dX1_finish_11 : decode cX1_finish 11 = .ok (.iload_n 1, 1) := by decide +kernel
theorem dX1_finish_12 : decode cX1_finish 12 = .ok (.if_icmp .gt 16, 3) := by decide +kernel
theorem dX1_finish_15 : decode cX1_finish 15 = .ok (.aload_n 0, 1) := by decide +kernel
theorem dX1_finish_16 : decode cX1_finish 16 = .ok (.getfield 7, 3) := by decide +kernel
theorem dX1_finish_19 : decode cX1_finish 19 = .ok (.iconst 1, 1) := by decide +kernel
theorem dX1_finish_20 : decode cX1_finish 20 = .ok (.putfield 17, 3) := by decide +kernel
theorem dX1_finish_23 : decode cX1_finish 23 = .ok (.aload_n 0, 1) := by decide +kernel
theorem dX1_finish_24 : decode cX1_finish 24 = .ok (.aconst_null, 1) := by decide +kernel
theorem dX1_finish_25 : decode cX1_finish 25 = .ok (.putfield 7, 3) := by decide +kernel
theorem dX1_finish_28 : decode cX1_finish 28 = .ok (.return_, 1) := by decide +kernel
set_option maxRecDepth 20000 in
theorem ggX2_init_X0_init : GoodIn wsX2_init wsX0_init := goodIn_r _ [22, 23, 2, 3, 24, 25, 26, 27, 41, 42, 43, 44] (by decide +kernel) (by decide +kernel)
set_option maxRecDepth 20000 in
theorem gX2_init_X0_init_n56 : GoodIn wsX2_init (wsX0_init) := ggX2_init_X0_init
theorem dX2_init_0 : decode cX2_init 0 = .ok (.aload_n 0, 1) := by decide +kernel
theorem dX2_init_1 : decode cX2_init 1 = .ok (.invokespecial 3, 3) := by decide +kernel
theorem dX2_init_4 : decode cX2_init 4 = .ok (.aload_n 0, 1) := by decide +kernel
theorem dX2_init_5 : decode cX2_init 5 = .ok (.iconst 3, 1) := by decide +kernel
theorem dX2_init_6 : decode cX2_init 6 = .ok (.anewarray 9, 3) := by decide +kernel
theorem dX2_init_9 : decode cX2_init 9 = .ok (.putfield 11, 3) := by decide +kernel
theorem dX2_init_12 : decode cX2_init 12 = .ok (.aload_n 0, 1) := by decide +kernel
theorem dX2_init_13 : decode cX2_init 13 = .ok (.bipush 12, 2) := by decide +kernel
theorem dX2_init_15 : decode cX2_init 15 = .ok (.newarray .int, 2) := by decide +kernel
theorem dX2_init_17 : decode cX2_init 17 = .ok (.putfield 17, 3) := by decide +kernel
theorem dX2_init_20 : decode cX2_init 20 = .ok (.aload_n 0, 1) := by decide +kernel
theorem dX2_init_21 : decode cX2_init 21 = .ok (.iconst 1, 1) := by decide +kernel
theorem dX2_init_22 : decode cX2_init 22 = .ok (.putfield 21, 3) := by decide +kernel
theorem dX2_init_25 : decode cX2_init 25 = .ok (.aload_n 0, 1) := by decide +kernel
theorem dX2_init_26 : decode cX2_init 26 = .ok (.iconst 0, 1) := by decide +kernel
theorem dX2_init_27 : decode cX2_init 27 = .ok (.putfield 25, 3) := by decide +kernel
theorem dX2_init_30 : decode cX2_init 30 = .ok (.aload_n 0, 1) := by decide +kernel
theorem dX2_init_31 : decode cX2_init 31 = .ok (.iconst 0, 1) := by decide +kernel
theorem dX2_init_32 : decode cX2_init 32 = .ok (.putfield 29, 3) := by decide +kernel
theorem dX2_init_35 : decode cX2_init 35 = .ok (.aload_n 0, 1) := by decide +kernel
theorem dX2_init_36 : decode cX2_init 36 = .ok (.iconst 0, 1) := by decide +kernel
theorem dX2_init_37 : decode cX2_init 37 = .ok (.putfield 32, 3) := by decide +kernel
theorem dX2_init_40 : decode cX2_init 40 = .ok (.aload_n 0, 1) := by decide +kernel
theorem dX2_init_41 : decode cX2_init 41 = .ok (.iconst 0, 1) := by decide +kernel
theorem dX2_init_42 : decode cX2_init 42 = .ok (.putfield 35, 3) := by decide +kernel
theorem dX2_init_45 : decode cX2_init 45 = .ok (.aload_n 0, 1) := by decide +kernel
theorem dX2_init_46 : decode cX2_init 46 = .ok (.iconst 0, 1) := by decide +kernel
theorem dX2_init_47 : decode cX2_init 47 = .ok (.putfield 38, 3) := by decide +kernel
theorem dX2_init_50 : decode cX2_init 50 = .ok (.aload_n 0, 1) := by decide +kernel
theorem dX2_init_51 : decode cX2_init 51 = .ok (.iconst 0, 1) := by decide +kernel
theorem dX2_init_52 : decode cX2_init 52 = .ok (.putfield 41, 3) := by decide +kernel
theorem dX2_init_55 : decode cX2_init 55 = .ok (.aload_n 0, 1) := by decide +kernel
theorem dX2_init_56 : decode cX2_init 56 = .ok (.iconst 0, 1) := by decide +kernel
theorem dX2_init_57 : decode cX2_init 57 = .ok (.putfield 44, 3) := by decide +kernel
theorem dX2_init_60 : decode cX2_init 60 = .ok (.aload_n 0, 1) := by decide +kernel
theorem dX2_init_61 : decode cX2_init 61 = .ok (.iconst 1, 1) := by decide +kernel
theorem dX2_init_62 : decode cX2_init 62 = .ok (.putfield 47, 3) := by decide +kernel
theorem dX2_init_65 : decode cX2_init 65 = .ok (.aload_n 0, 1) := by decide +kernel
theorem dX2_init_66 : decode cX2_init 66 = .ok (.iload_n 1, 1) := by decide +kernel
theorem dX2_init_67 : decode cX2_init 67 = .ok (.putfield 50, 3) := by decide +kernel
theorem dX2_init_70 : decode cX2_init 70 = .ok (.aload_n 0, 1) := by decide +kernel
theorem dX2_init_71 : decode cX2_init 71 = .ok (.iload_n 1, 1) := by decide +kernel
theorem dX2_init_72 : decode cX2_init 72 = .ok (.iconst 4, 1) := by decide +kernel
theorem dX2_init_73 : decode cX2_init 73 = .ok (.idiv, 1) := by decide +kernel
theorem dX2_init_74 : decode cX2_init 74 = .ok (.putfield 53, 3) := by decide +kernel
theorem dX2_init_77 : decode cX2_init 77 = .ok (.iconst 0, 1) := by decide +kernel
theorem dX2_init_78 : decode cX2_init 78 = .ok (.istore_n 2, 1) := by decide +kernel
theorem dX2_init_79 : decode cX2_init 79 = .ok (.iload_n 2, 1) := by decide +kernel
theorem dX2_init_80 : decode cX2_init 80 = .ok (.iconst 3, 1) := by decide +kernel
theorem dX2_init_81 : decode cX2_init 81 = .ok (.if_icmp .ge 22, 3) := by decide +kernel
theorem dX2_init_84 : decode cX2_init 84 = .ok (.aload_n 0, 1) := by decide +kernel
theorem dX2_init_85 : decode cX2_init 85 = .ok (.getfield 11, 3) := by decide +kernel
theorem dX2_init_88 : decode cX2_init 88 = .ok (.iload_n 2, 1) := by decide +kernel
theorem dX2_init_89 : decode cX2_init 89 = .ok (.new 9, 3) := by decide +kernel
theorem dX2_init_92 : decode cX2_init 92 = .ok (.dup, 1) := by decide +kernel
theorem dX2_init_93 : decode cX2_init 93 = .ok (.invokespecial 56, 3) := by decide +kernel
theorem dX2_init_96 : decode cX2_init 96 = .ok (.aastore, 1) := by decide +kernel
theorem dX2_init_97 : decode cX2_init 97 = .ok (.iinc 2 1, 3) := by decide +kernel
theorem dX2_init_100 : decode cX2_init 100 = .ok (.goto (-21), 3) := by decide +kernel
theorem dX2_init_103 : decode cX2_init 103 = .ok (.return_, 1) := by decide +kernel
set_option maxRecDepth 20000 in
theorem ggX2_isQuietAt_X2_quietSeconds : GoodIn wsX2_isQuietAt wsX2_quietSeconds := goodIn_r _ [5, 6, 7, 8, 9, 4, 10, 11, 12, 13, 14, 15, 16, 17, 18, 19, 20, 21, 22, 23, 24, 25, 26, 27, 28, 29, 30] (by decide +kernel) (by decide +kernel)
set_option maxRecDepth 20000 in
theorem gX2_isQuietAt_X2_quietSeconds : GoodIn wsX2_isQuietAt (wsV RX2 57 RX2 yX2_quietSeconds wsX2_quietSeconds) := goodIn_app (goodIn_of _ (by decide +kernel)) ggX2_isQuietAt_X2_quietSeconds
theorem dX2_isQuietAt_0 : decode cX2_isQuietAt 0 = .ok (.aload_n 0, 1) := by decide +kernel
theorem dX2_isQuietAt_1 : decode cX2_isQuietAt 1 = .ok (.iload_n 1, 1) := by decide +kernel
theorem dX2_isQuietAt_2 : decode cX2_isQuietAt 2 = .ok (.iload_n 1, 1) := by decide +kernel
theorem dX2_isQuietAt_3 : decode cX2_isQuietAt 3 = .ok (.iconst 1, 1) := by decide +kernel
theorem dX2_isQuietAt_4 : decode cX2_isQuietAt 4 = .ok (.iadd, 1) := by decide +kernel
theorem dX2_isQuietAt_5 : decode cX2_isQuietAt 5 = .ok (.invokevirtual 57, 3) := by decide +kernel
theorem dX2_isQuietAt_8 : decode cX2_isQuietAt 8 = .ok (.ifCond .le 7, 3) := by decide +kernel
theorem dX2_isQuietAt_11 : decode cX2_isQuietAt 11 = .ok (.iconst 1, 1) := by decide +kernel
theorem dX2_isQuietAt_12 : decode cX2_isQuietAt 12 = .ok (.goto 4, 3) := by decide +kernel
theorem dX2_isQuietAt_15 : decode cX2_isQuietAt 15 = .ok (.iconst 0, 1) := by decide +kernel
theorem dX2_isQuietAt_16 : decode cX2_isQuietAt 16 = .ok (.ireturn, 1) := by decide +kernel
set_option maxRecDepth 20000 in
theorem ggX2_quietSeconds_X2_shared : GoodIn wsX2_quietSeconds wsX2_shared := goodIn_r _ [6, 7, 8, 9, 10, 11, 12, 13] (by decide +kernel) (by decide +kernel)
set_option maxRecDepth 20000 in
theorem gX2_quietSeconds_X2_shared : GoodIn wsX2_quietSeconds (va_wsS RX2 61 yX2_shared wsX2_shared) := goodIn_app (goodIn_of _ (by decide +kernel)) ggX2_quietSeconds_X2_shared
theorem dX2_quietSeconds_0 : decode cX2_quietSeconds 0 = .ok (.iload_n 1, 1) := by decide +kernel
theorem dX2_quietSeconds_1 : decode cX2_quietSeconds 1 = .ok (.sipush 1000, 3) := by decide +kernel
theorem dX2_quietSeconds_4 : decode cX2_quietSeconds 4 = .ok (.irem, 1) := by decide +kernel
theorem dX2_quietSeconds_5 : decode cX2_quietSeconds 5 = .ok (.istore_n 3, 1) := by decide +kernel
theorem dX2_quietSeconds_6 : decode cX2_quietSeconds 6 = .ok (.iload_n 3, 1) := by decide +kernel
theorem dX2_quietSeconds_7 : decode cX2_quietSeconds 7 = .ok (.iload_n 2, 1) := by decide +kernel
theorem dX2_quietSeconds_8 : decode cX2_quietSeconds 8 = .ok (.iadd, 1) := by decide +kernel
theorem dX2_quietSeconds_9 : decode cX2_quietSeconds 9 = .ok (.iload_n 1, 1) := by decide +kernel
theorem dX2_quietSeconds_10 : decode cX2_quietSeconds 10 = .ok (.isub, 1) := by decide +kernel
theorem dX2_quietSeconds_11 : decode cX2_quietSeconds 11 = .ok (.istore 4, 2) := by decide +kernel
theorem dX2_quietSeconds_13 : decode cX2_quietSeconds 13 = .ok (.aload_n 0, 1) := by decide +kernel
theorem dX2_quietSeconds_14 : decode cX2_quietSeconds 14 = .ok (.getfield 25, 3) := by decide +kernel
theorem dX2_quietSeconds_17 : decode cX2_quietSeconds 17 = .ok (.aload_n 0, 1) := by decide +kernel
theorem dX2_quietSeconds_18 : decode cX2_quietSeconds 18 = .ok (.getfield 29, 3) := by decide +kernel
theorem dX2_quietSeconds_21 : decode cX2_quietSeconds 21 = .ok (.if_icmp .gt 18, 3) := by decide +kernel
theorem dX2_quietSeconds_24 : decode cX2_quietSeconds 24 = .ok (.iload_n 3, 1) := by decide +kernel
theorem dX2_quietSeconds_25 : decode cX2_quietSeconds 25 = .ok (.iload 4, 2) := by decide +kernel
theorem dX2_quietSeconds_27 : decode cX2_quietSeconds 27 = .ok (.aload_n 0, 1) := by decide +kernel
theorem dX2_quietSeconds_28 : decode cX2_quietSeconds 28 = .ok (.getfield 25, 3) := by decide +kernel
theorem dX2_quietSeconds_31 : decode cX2_quietSeconds 31 = .ok (.aload_n 0, 1) := by decide +kernel
theorem dX2_quietSeconds_32 : decode cX2_quietSeconds 32 = .ok (.getfield 29, 3) := by decide +kernel
theorem dX2_quietSeconds_35 : decode cX2_quietSeconds 35 = .ok (.invokestatic 61, 3) := by decide +kernel
theorem dX2_quietSeconds_38 : decode cX2_quietSeconds 38 = .ok (.ireturn, 1) := by decide +kernel
theorem dX2_quietSeconds_39 : decode cX2_quietSeconds 39 = .ok (.iload_n 3, 1) := by decide +kernel
theorem dX2_quietSeconds_40 : decode cX2_quietSeconds 40 = .ok (.iload 4, 2) := by decide +kernel
theorem dX2_quietSeconds_42 : decode cX2_quietSeconds 42 = .ok (.iconst 0, 1) := by decide +kernel
theorem dX2_quietSeconds_43 : decode cX2_quietSeconds 43 = .ok (.aload_n 0, 1) := by decide +kernel
theorem dX2_quietSeconds_44 : decode cX2_quietSeconds 44 = .ok (.getfield 29, 3) := by decide +kernel
theorem dX2_quietSeconds_47 : decode cX2_quietSeconds 47 = .ok (.invokestatic 61, 3) := by decide +kernel
theorem dX2_quietSeconds_50 : decode cX2_quietSeconds 50 = .ok (.iload_n 3, 1) := by decide +kernel
theorem dX2_quietSeconds_51 : decode cX2_quietSeconds 51 = .ok (.iload 4, 2) := by decide +kernel
theorem dX2_quietSeconds_53 : decode cX2_quietSeconds 53 = .ok (.aload_n 0, 1) := by decide +kernel
theorem dX2_quietSeconds_54 : decode cX2_quietSeconds 54 = .ok (.getfield 25, 3) := by decide +kernel
theorem dX2_quietSeconds_57 : decode cX2_quietSeconds 57 = .ok (.sipush 1000, 3) := by decide +kernel
theorem dX2_quietSeconds_60 : decode cX2_quietSeconds 60 = .ok (.invokestatic 61, 3) := by decide +kernel
theorem dX2_quietSeconds_63 : decode cX2_quietSeconds 63 = .ok (.iadd, 1) := by decide +kernel
theorem dX2_quietSeconds_64 : decode cX2_quietSeconds 64 = .ok (.ireturn, 1) := by decide +kernel
theorem dX2_shared_0 : decode cX2_shared 0 = .ok (.iconst 0, 1) := by decide +kernel
theorem dX2_shared_1 : decode cX2_shared 1 = .ok (.iload_n 1, 1) := by decide +kernel
theorem dX2_shared_2 : decode cX2_shared 2 = .ok (.iload_n 3, 1) := by decide +kernel
theorem dX2_shared_3 : decode cX2_shared 3 = .ok (.invokestatic 65, 3) := by decide +kernel
theorem dX2_shared_6 : decode cX2_shared 6 = .ok (.iload_n 0, 1) := by decide +kernel
theorem dX2_shared_7 : decode cX2_shared 7 = .ok (.iload_n 2, 1) := by decide +kernel
theorem dX2_shared_8 : decode cX2_shared 8 = .ok (.invokestatic 70, 3) := by decide +kernel
theorem dX2_shared_11 : decode cX2_shared 11 = .ok (.isub, 1) := by decide +kernel
theorem dX2_shared_12 : decode cX2_shared 12 = .ok (.invokestatic 70, 3) := by decide +kernel
theorem dX2_shared_15 : decode cX2_shared 15 = .ok (.ireturn, 1) := by decide +kernel
theorem dX2_mayRing_0 : decode cX2_mayRing 0 = .ok (.aload_n 1, 1) := by decide +kernel
theorem dX2_mayRing_1 : decode cX2_mayRing 1 = .ok (.getfield 73, 3) := by decide +kernel
theorem dX2_mayRing_4 : decode cX2_mayRing 4 = .ok (.aload_n 0, 1) := by decide +kernel
theorem dX2_mayRing_5 : decode cX2_mayRing 5 = .ok (.getfield 50, 3) := by decide +kernel
theorem dX2_mayRing_8 : decode cX2_mayRing 8 = .ok (.if_icmp .eq 15, 3) := by decide +kernel
theorem dX2_mayRing_11 : decode cX2_mayRing 11 = .ok (.aload_n 0, 1) := by decide +kernel
theorem dX2_mayRing_12 : decode cX2_mayRing 12 = .ok (.getfield 17, 3) := by decide +kernel
theorem dX2_mayRing_15 : decode cX2_mayRing 15 = .ok (.aload_n 1, 1) := by decide +kernel
theorem dX2_mayRing_16 : decode cX2_mayRing 16 = .ok (.getfield 78, 3) := by decide +kernel
theorem dX2_mayRing_19 : decode cX2_mayRing 19 = .ok (.iaload, 1) := by decide +kernel
theorem dX2_mayRing_20 : decode cX2_mayRing 20 = .ok (.ifCond .le 7, 3) := by decide +kernel
theorem dX2_mayRing_23 : decode cX2_mayRing 23 = .ok (.iconst 1, 1) := by decide +kernel
theorem dX2_mayRing_24 : decode cX2_mayRing 24 = .ok (.goto 4, 3) := by decide +kernel
theorem dX2_mayRing_27 : decode cX2_mayRing 27 = .ok (.iconst 0, 1) := by decide +kernel
theorem dX2_mayRing_28 : decode cX2_mayRing 28 = .ok (.ireturn, 1) := by decide +kernel
theorem dX2_useRight_0 : decode cX2_useRight 0 = .ok (.aload_n 1, 1) := by decide +kernel
theorem dX2_useRight_1 : decode cX2_useRight 1 = .ok (.getfield 73, 3) := by decide +kernel
theorem dX2_useRight_4 : decode cX2_useRight 4 = .ok (.aload_n 0, 1) := by decide +kernel
theorem dX2_useRight_5 : decode cX2_useRight 5 = .ok (.getfield 50, 3) := by decide +kernel
theorem dX2_useRight_8 : decode cX2_useRight 8 = .ok (.if_icmp .eq 16, 3) := by decide +kernel
theorem dX2_useRight_11 : decode cX2_useRight 11 = .ok (.aload_n 0, 1) := by decide +kernel
theorem dX2_useRight_12 : decode cX2_useRight 12 = .ok (.getfield 17, 3) := by decide +kernel
theorem dX2_useRight_15 : decode cX2_useRight 15 = .ok (.aload_n 1, 1) := by decide +kernel
theorem dX2_useRight_16 : decode cX2_useRight 16 = .ok (.getfield 78, 3) := by decide +kernel
theorem dX2_useRight_19 : decode cX2_useRight 19 = .ok (.dup2, 1) := by decide +kernel
theorem dX2_useRight_20 : decode cX2_useRight 20 = .ok (.iaload, 1) := by decide +kernel
theorem dX2_useRight_21 : decode cX2_useRight 21 = .ok (.iconst 1, 1) := by decide +kernel
theorem dX2_useRight_22 : decode cX2_useRight 22 = .ok (.isub, 1) := by decide +kernel
theorem dX2_useRight_23 : decode cX2_useRight 23 = .ok (.iastore, 1) := by decide +kernel
theorem dX2_useRight_24 : decode cX2_useRight 24 = .ok (.return_, 1) := by decide +kernel
theorem dX2_ringingSet_0 : decode cX2_ringingSet 0 = .ok (.iconst 0, 1) := by decide +kernel
theorem dX2_ringingSet_1 : decode cX2_ringingSet 1 = .ok (.istore_n 1, 1) := by decide +kernel
theorem dX2_ringingSet_2 : decode cX2_ringingSet 2 = .ok (.iconst 0, 1) := by decide +kernel
theorem dX2_ringingSet_3 : decode cX2_ringingSet 3 = .ok (.istore_n 2, 1) := by decide +kernel
theorem dX2_ringingSet_4 : decode cX2_ringingSet 4 = .ok (.iload_n 2, 1) := by decide +kernel
theorem dX2_ringingSet_5 : decode cX2_ringingSet 5 = .ok (.iconst 3, 1) := by decide +kernel
theorem dX2_ringingSet_6 : decode cX2_ringingSet 6 = .ok (.if_icmp .ge 27, 3) := by decide +kernel
theorem dX2_ringingSet_9 : decode cX2_ringingSet 9 = .ok (.aload_n 0, 1) := by decide +kernel
theorem dX2_ringingSet_10 : decode cX2_ringingSet 10 = .ok (.getfield 11, 3) := by decide +kernel
theorem dX2_ringingSet_13 : decode cX2_ringingSet 13 = .ok (.iload_n 2, 1) := by decide +kernel
theorem dX2_ringingSet_14 : decode cX2_ringingSet 14 = .ok (.aaload, 1) := by decide +kernel
theorem dX2_ringingSet_15 : decode cX2_ringingSet 15 = .ok (.getfield 79, 3) := by decide +kernel
theorem dX2_ringingSet_18 : decode cX2_ringingSet 18 = .ok (.ifCond .eq 9, 3) := by decide +kernel
theorem dX2_ringingSet_21 : decode cX2_ringingSet 21 = .ok (.iload_n 1, 1) := by decide +kernel
theorem dX2_ringingSet_22 : decode cX2_ringingSet 22 = .ok (.iconst 1, 1) := by decide +kernel
theorem dX2_ringingSet_23 : decode cX2_ringingSet 23 = .ok (.iload_n 2, 1) := by decide +kernel
theorem dX2_ringingSet_24 : decode cX2_ringingSet 24 = .ok (.ishl, 1) := by decide +kernel
theorem dX2_ringingSet_25 : decode cX2_ringingSet 25 = .ok (.ior, 1) := by decide +kernel
theorem dX2_ringingSet_26 : decode cX2_ringingSet 26 = .ok (.istore_n 1, 1) := by decide +kernel
theorem dX2_ringingSet_27 : decode cX2_ringingSet 27 = .ok (.iinc 2 1, 3) := by decide +kernel
theorem dX2_ringingSet_30 : decode cX2_ringingSet 30 = .ok (.goto (-26), 3) := by decide +kernel
theorem dX2_ringingSet_33 : decode cX2_ringingSet 33 = .ok (.iload_n 1, 1) := by decide +kernel
theorem dX2_ringingSet_34 : decode cX2_ringingSet 34 = .ok (.ireturn, 1) := by decide +kernel
theorem dX2_ringingLoad_0 : decode cX2_ringingLoad 0 = .ok (.iconst 0, 1) := by decide +kernel
theorem dX2_ringingLoad_1 : decode cX2_ringingLoad 1 = .ok (.istore_n 1, 1) := by decide +kernel
theorem dX2_ringingLoad_2 : decode cX2_ringingLoad 2 = .ok (.aload_n 0, 1) := by decide +kernel
theorem dX2_ringingLoad_3 : decode cX2_ringingLoad 3 = .ok (.getfield 11, 3) := by decide +kernel
theorem dX2_ringingLoad_6 : decode cX2_ringingLoad 6 = .ok (.astore_n 2, 1) := by decide +kernel
theorem dX2_ringingLoad_7 : decode cX2_ringingLoad 7 = .ok (.aload_n 2, 1) := by decide +kernel
theorem dX2_ringingLoad_8 : decode cX2_ringingLoad 8 = .ok (.arraylength, 1) := by decide +kernel
theorem dX2_ringingLoad_9 : decode cX2_ringingLoad 9 = .ok (.istore_n 3, 1) := by decide +kernel
theorem dX2_ringingLoad_10 : decode cX2_ringingLoad 10 = .ok (.iconst 0, 1) := by decide +kernel
theorem dX2_ringingLoad_11 : decode cX2_ringingLoad 11 = .ok (.istore 4, 2) := by decide +kernel
theorem dX2_ringingLoad_13 : decode cX2_ringingLoad 13 = .ok (.iload 4, 2) := by decide +kernel
theorem dX2_ringingLoad_15 : decode cX2_ringingLoad 15 = .ok (.iload_n 3, 1) := by decide +kernel
theorem dX2_ringingLoad_16 : decode cX2_ringingLoad 16 = .ok (.if_icmp .ge 31, 3) := by decide +kernel
theorem dX2_ringingLoad_19 : decode cX2_ringingLoad 19 = .ok (.aload_n 2, 1) := by decide +kernel
theorem dX2_ringingLoad_20 : decode cX2_ringingLoad 20 = .ok (.iload 4, 2) := by decide +kernel
theorem dX2_ringingLoad_22 : decode cX2_ringingLoad 22 = .ok (.aaload, 1) := by decide +kernel
theorem dX2_ringingLoad_23 : decode cX2_ringingLoad 23 = .ok (.astore 5, 2) := by decide +kernel
theorem dX2_ringingLoad_25 : decode cX2_ringingLoad 25 = .ok (.aload 5, 2) := by decide +kernel
theorem dX2_ringingLoad_27 : decode cX2_ringingLoad 27 = .ok (.getfield 79, 3) := by decide +kernel
theorem dX2_ringingLoad_30 : decode cX2_ringingLoad 30 = .ok (.ifCond .eq 11, 3) := by decide +kernel
theorem dX2_ringingLoad_33 : decode cX2_ringingLoad 33 = .ok (.iload_n 1, 1) := by decide +kernel
theorem dX2_ringingLoad_34 : decode cX2_ringingLoad 34 = .ok (.aload 5, 2) := by decide +kernel
theorem dX2_ringingLoad_36 : decode cX2_ringingLoad 36 = .ok (.getfield 82, 3) := by decide +kernel
theorem dX2_ringingLoad_39 : decode cX2_ringingLoad 39 = .ok (.iadd, 1) := by decide +kernel
theorem dX2_ringingLoad_40 : decode cX2_ringingLoad 40 = .ok (.istore_n 1, 1) := by decide +kernel
theorem dX2_ringingLoad_41 : decode cX2_ringingLoad 41 = .ok (.iinc 4 1, 3) := by decide +kernel
theorem dX2_ringingLoad_44 : decode cX2_ringingLoad 44 = .ok (.goto (-31), 3) := by decide +kernel
theorem dX2_ringingLoad_47 : decode cX2_ringingLoad 47 = .ok (.iload_n 1, 1) := by decide +kernel
theorem dX2_ringingLoad_48 : decode cX2_ringingLoad 48 = .ok (.ireturn, 1) := by decide +kernel
set_option maxRecDepth 20000 in
theorem ggX2_startBells_X3_lasts : GoodIn wsX2_startBells wsX3_lasts := goodIn_r _ [6, 7, 32, 33, 34, 35] (by decide +kernel) (by decide +kernel)
set_option maxRecDepth 20000 in
theorem gX2_startBells_X3_lasts : GoodIn wsX2_startBells (wsV RX2 89 RX3 yX3_lasts wsX3_lasts) := goodIn_app (goodIn_of _ (by decide +kernel)) ggX2_startBells_X3_lasts
set_option maxRecDepth 20000 in
theorem ggX2_startBells_X0_ringUntil : GoodIn wsX2_startBells wsX0_ringUntil := goodIn_r _ [12, 13, 14, 28, 29, 30, 31] (by decide +kernel) (by decide +kernel)
set_option maxRecDepth 20000 in
theorem gX2_startBells_X0_ringUntil : GoodIn wsX2_startBells (wsV RX2 93 RX0 yX0_ringUntil wsX0_ringUntil) := goodIn_app (goodIn_of _ (by decide +kernel)) ggX2_startBells_X0_ringUntil
theorem dX2_startBells_0 : decode cX2_startBells 0 = .ok (.iconst 0, 1) := by decide +kernel
theorem dX2_startBells_1 : decode cX2_startBells 1 = .ok (.istore_n 2, 1) := by decide +kernel
theorem dX2_startBells_2 : decode cX2_startBells 2 = .ok (.aload_n 0, 1) := by decide +kernel
theorem dX2_startBells_3 : decode cX2_startBells 3 = .ok (.getfield 11, 3) := by decide +kernel
theorem dX2_startBells_6 : decode cX2_startBells 6 = .ok (.astore_n 3, 1) := by decide +kernel
theorem dX2_startBells_7 : decode cX2_startBells 7 = .ok (.aload_n 3, 1) := by decide +kernel
theorem dX2_startBells_8 : decode cX2_startBells 8 = .ok (.arraylength, 1) := by decide +kernel
theorem dX2_startBells_9 : decode cX2_startBells 9 = .ok (.istore 4, 2) := by decide +kernel
theorem dX2_startBells_11 : decode cX2_startBells 11 = .ok (.iconst 0, 1) := by decide +kernel
theorem dX2_startBells_12 : decode cX2_startBells 12 = .ok (.istore 5, 2) := by decide +kernel
theorem dX2_startBells_14 : decode cX2_startBells 14 = .ok (.iload 5, 2) := by decide +kernel
theorem dX2_startBells_16 : decode cX2_startBells 16 = .ok (.iload 4, 2) := by decide +kernel
theorem dX2_startBells_18 : decode cX2_startBells 18 = .ok (.if_icmp .ge 49, 3) := by decide +kernel
theorem dX2_startBells_21 : decode cX2_startBells 21 = .ok (.aload_n 3, 1) := by decide +kernel
theorem dX2_startBells_22 : decode cX2_startBells 22 = .ok (.iload 5, 2) := by decide +kernel
theorem dX2_startBells_24 : decode cX2_startBells 24 = .ok (.aaload, 1) := by decide +kernel
theorem dX2_startBells_25 : decode cX2_startBells 25 = .ok (.astore 6, 2) := by decide +kernel
theorem dX2_startBells_27 : decode cX2_startBells 27 = .ok (.aload 6, 2) := by decide +kernel
theorem dX2_startBells_29 : decode cX2_startBells 29 = .ok (.getfield 85, 3) := by decide +kernel
theorem dX2_startBells_32 : decode cX2_startBells 32 = .ok (.ifnull 29, 3) := by decide +kernel
theorem dX2_startBells_35 : decode cX2_startBells 35 = .ok (.aload 6, 2) := by decide +kernel
theorem dX2_startBells_37 : decode cX2_startBells 37 = .ok (.getfield 79, 3) := by decide +kernel
theorem dX2_startBells_40 : decode cX2_startBells 40 = .ok (.ifCond .ne 21, 3) := by decide +kernel
theorem dX2_startBells_43 : decode cX2_startBells 43 = .ok (.aload 6, 2) := by decide +kernel
theorem dX2_startBells_45 : decode cX2_startBells 45 = .ok (.iload_n 1, 1) := by decide +kernel
theorem dX2_startBells_46 : decode cX2_startBells 46 = .ok (.aload 6, 2) := by decide +kernel
theorem dX2_startBells_48 : decode cX2_startBells 48 = .ok (.getfield 85, 3) := by decide +kernel
theorem dX2_startBells_51 : decode cX2_startBells 51 = .ok (.invokevirtual 89, 3) := by decide +kernel
theorem dX2_startBells_54 : decode cX2_startBells 54 = .ok (.iadd, 1) := by decide +kernel
theorem dX2_startBells_55 : decode cX2_startBells 55 = .ok (.invokevirtual 93, 3) := by decide +kernel
theorem dX2_startBells_58 : decode cX2_startBells 58 = .ok (.iinc 2 1, 3) := by decide +kernel
theorem dX2_startBells_61 : decode cX2_startBells 61 = .ok (.iinc 5 1, 3) := by decide +kernel
theorem dX2_startBells_64 : decode cX2_startBells 64 = .ok (.goto (-50), 3) := by decide +kernel
theorem dX2_startBells_67 : decode cX2_startBells 67 = .ok (.iload_n 2, 1) := by decide +kernel
theorem dX2_startBells_68 : decode cX2_startBells 68 = .ok (.ireturn, 1) := by decide +kernel
theorem dX2_breakDown_0 : decode cX2_breakDown 0 = .ok (.aload_n 0, 1) := by decide +kernel
theorem dX2_breakDown_1 : decode cX2_breakDown 1 = .ok (.iconst 0, 1) := by decide +kernel
theorem dX2_breakDown_2 : decode cX2_breakDown 2 = .ok (.putfield 21, 3) := by decide +kernel
theorem dX2_breakDown_5 : decode cX2_breakDown 5 = .ok (.aload_n 0, 1) := by decide +kernel
theorem dX2_breakDown_6 : decode cX2_breakDown 6 = .ok (.getfield 11, 3) := by decide +kernel
theorem dX2_breakDown_9 : decode cX2_breakDown 9 = .ok (.astore_n 1, 1) := by decide +kernel
theorem dX2_breakDown_10 : decode cX2_breakDown 10 = .ok (.aload_n 1, 1) := by decide +kernel
theorem dX2_breakDown_11 : decode cX2_breakDown 11 = .ok (.arraylength, 1) := by decide +kernel
theorem dX2_breakDown_12 : decode cX2_breakDown 12 = .ok (.istore_n 2, 1) := by decide +kernel
theorem dX2_breakDown_13 : decode cX2_breakDown 13 = .ok (.iconst 0, 1) := by decide +kernel
theorem dX2_breakDown_14 : decode cX2_breakDown 14 = .ok (.istore_n 3, 1) := by decide +kernel
theorem dX2_breakDown_15 : decode cX2_breakDown 15 = .ok (.iload_n 3, 1) := by decide +kernel
theorem dX2_breakDown_16 : decode cX2_breakDown 16 = .ok (.iload_n 2, 1) := by decide +kernel
theorem dX2_breakDown_17 : decode cX2_breakDown 17 = .ok (.if_icmp .ge 20, 3) := by decide +kernel
theorem dX2_breakDown_20 : decode cX2_breakDown 20 = .ok (.aload_n 1, 1) := by decide +kernel
theorem dX2_breakDown_21 : decode cX2_breakDown 21 = .ok (.iload_n 3, 1) := by decide +kernel
theorem dX2_breakDown_22 : decode cX2_breakDown 22 = .ok (.aaload, 1) := by decide +kernel
theorem dX2_breakDown_23 : decode cX2_breakDown 23 = .ok (.astore 4, 2) := by decide +kernel
theorem dX2_breakDown_25 : decode cX2_breakDown 25 = .ok (.aload 4, 2) := by decide +kernel
theorem dX2_breakDown_27 : decode cX2_breakDown 27 = .ok (.iconst 0, 1) := by decide +kernel
theorem dX2_breakDown_28 : decode cX2_breakDown 28 = .ok (.putfield 79, 3) := by decide +kernel
theorem dX2_breakDown_31 : decode cX2_breakDown 31 = .ok (.iinc 3 1, 3) := by decide +kernel
theorem dX2_breakDown_34 : decode cX2_breakDown 34 = .ok (.goto (-19), 3) := by decide +kernel
theorem dX2_breakDown_37 : decode cX2_breakDown 37 = .ok (.return_, 1) := by decide +kernel
theorem dX2_firstStop_0 : decode cX2_firstStop 0 = .ok (.iload_n 1, 1) := by decide +kernel
theorem dX2_firstStop_1 : decode cX2_firstStop 1 = .ok (.istore_n 2, 1) := by decide +kernel
theorem dX2_firstStop_2 : decode cX2_firstStop 2 = .ok (.aload_n 0, 1) := by decide +kernel
theorem dX2_firstStop_3 : decode cX2_firstStop 3 = .ok (.getfield 11, 3) := by decide +kernel
theorem dX2_firstStop_6 : decode cX2_firstStop 6 = .ok (.astore_n 3, 1) := by decide +kernel
theorem dX2_firstStop_7 : decode cX2_firstStop 7 = .ok (.aload_n 3, 1) := by decide +kernel
theorem dX2_firstStop_8 : decode cX2_firstStop 8 = .ok (.arraylength, 1) := by decide +kernel
theorem dX2_firstStop_9 : decode cX2_firstStop 9 = .ok (.istore 4, 2) := by decide +kernel
theorem dX2_firstStop_11 : decode cX2_firstStop 11 = .ok (.iconst 0, 1) := by decide +kernel
theorem dX2_firstStop_12 : decode cX2_firstStop 12 = .ok (.istore 5, 2) := by decide +kernel
theorem dX2_firstStop_14 : decode cX2_firstStop 14 = .ok (.iload 5, 2) := by decide +kernel
theorem dX2_firstStop_16 : decode cX2_firstStop 16 = .ok (.iload 4, 2) := by decide +kernel
theorem dX2_firstStop_18 : decode cX2_firstStop 18 = .ok (.if_icmp .ge 38, 3) := by decide +kernel
theorem dX2_firstStop_21 : decode cX2_firstStop 21 = .ok (.aload_n 3, 1) := by decide +kernel
theorem dX2_firstStop_22 : decode cX2_firstStop 22 = .ok (.iload 5, 2) := by decide +kernel
theorem dX2_firstStop_24 : decode cX2_firstStop 24 = .ok (.aaload, 1) := by decide +kernel
theorem dX2_firstStop_25 : decode cX2_firstStop 25 = .ok (.astore 6, 2) := by decide +kernel
theorem dX2_firstStop_27 : decode cX2_firstStop 27 = .ok (.aload 6, 2) := by decide +kernel
theorem dX2_firstStop_29 : decode cX2_firstStop 29 = .ok (.getfield 79, 3) := by decide +kernel
theorem dX2_firstStop_32 : decode cX2_firstStop 32 = .ok (.ifCond .eq 18, 3) := by decide +kernel
theorem dX2_firstStop_35 : decode cX2_firstStop 35 = .ok (.aload 6, 2) := by decide +kernel
theorem dX2_firstStop_37 : decode cX2_firstStop 37 = .ok (.getfield 97, 3) := by decide +kernel
theorem dX2_firstStop_40 : decode cX2_firstStop 40 = .ok (.iload_n 2, 1) := by decide +kernel
theorem dX2_firstStop_41 : decode cX2_firstStop 41 = .ok (.if_icmp .ge 9, 3) := by decide +kernel
theorem dX2_firstStop_44 : decode cX2_firstStop 44 = .ok (.aload 6, 2) := by decide +kernel
theorem dX2_firstStop_46 : decode cX2_firstStop 46 = .ok (.getfield 97, 3) := by decide +kernel
theorem dX2_firstStop_49 : decode cX2_firstStop 49 = .ok (.istore_n 2, 1) := by decide +kernel
theorem dX2_firstStop_50 : decode cX2_firstStop 50 = .ok (.iinc 5 1, 3) := by decide +kernel
theorem dX2_firstStop_53 : decode cX2_firstStop 53 = .ok (.goto (-39), 3) := by decide +kernel
theorem dX2_firstStop_56 : decode cX2_firstStop 56 = .ok (.iload_n 2, 1) := by decide +kernel
theorem dX2_firstStop_57 : decode cX2_firstStop 57 = .ok (.ireturn, 1) := by decide +kernel
theorem dX2_stopEndedBells_0 : decode cX2_stopEndedBells 0 = .ok (.aload_n 0, 1) := by decide +kernel
theorem dX2_stopEndedBells_1 : decode cX2_stopEndedBells 1 = .ok (.getfield 11, 3) := by decide +kernel
theorem dX2_stopEndedBells_4 : decode cX2_stopEndedBells 4 = .ok (.astore_n 2, 1) := by decide +kernel
theorem dX2_stopEndedBells_5 : decode cX2_stopEndedBells 5 = .ok (.aload_n 2, 1) := by decide +kernel
theorem dX2_stopEndedBells_6 : decode cX2_stopEndedBells 6 = .ok (.arraylength, 1) := by decide +kernel
theorem dX2_stopEndedBells_7 : decode cX2_stopEndedBells 7 = .ok (.istore_n 3, 1) := by decide +kernel
theorem dX2_stopEndedBells_8 : decode cX2_stopEndedBells 8 = .ok (.iconst 0, 1) := by decide +kernel
theorem dX2_stopEndedBells_9 : decode cX2_stopEndedBells 9 = .ok (.istore 4, 2) := by decide +kernel
theorem dX2_stopEndedBells_11 : decode cX2_stopEndedBells 11 = .ok (.iload 4, 2) := by decide +kernel
theorem dX2_stopEndedBells_13 : decode cX2_stopEndedBells 13 = .ok (.iload_n 3, 1) := by decide +kernel
theorem dX2_stopEndedBells_14 : decode cX2_stopEndedBells 14 = .ok (.if_icmp .ge 30, 3) := by decide +kernel
theorem dX2_stopEndedBells_17 : decode cX2_stopEndedBells 17 = .ok (.aload_n 2, 1) := by decide +kernel
theorem dX2_stopEndedBells_18 : decode cX2_stopEndedBells 18 = .ok (.iload 4, 2) := by decide +kernel
theorem dX2_stopEndedBells_20 : decode cX2_stopEndedBells 20 = .ok (.aaload, 1) := by decide +kernel
theorem dX2_stopEndedBells_21 : decode cX2_stopEndedBells 21 = .ok (.astore 5, 2) := by decide +kernel
theorem dX2_stopEndedBells_23 : decode cX2_stopEndedBells 23 = .ok (.aload 5, 2) := by decide +kernel
theorem dX2_stopEndedBells_25 : decode cX2_stopEndedBells 25 = .ok (.getfield 97, 3) := by decide +kernel
theorem dX2_stopEndedBells_28 : decode cX2_stopEndedBells 28 = .ok (.iload_n 1, 1) := by decide +kernel
theorem dX2_stopEndedBells_29 : decode cX2_stopEndedBells 29 = .ok (.if_icmp .gt 9, 3) := by decide +kernel
theorem dX2_stopEndedBells_32 : decode cX2_stopEndedBells 32 = .ok (.aload 5, 2) := by decide +kernel
theorem dX2_stopEndedBells_34 : decode cX2_stopEndedBells 34 = .ok (.iconst 0, 1) := by decide +kernel
theorem dX2_stopEndedBells_35 : decode cX2_stopEndedBells 35 = .ok (.putfield 79, 3) := by decide +kernel
