/-! ===== BEGIN printed: names, fields, word lists, decode rows ===== -/
def RX0 : String := "BoxballHall$Carrier"
def TX0 : u_T := fun k => match k with
  | 0 => ("BoxballHall$Carrier", "left", "[I", true)
  | _ => ("BoxballHall$Carrier", "most", "I", false)
def tyX0 : Nat → FieldType := fun k => match k with
  | 0 => .array .int
  | _ => .int
abbrev wsX00 : List Cond := u_ws RX0 TX0 2
theorem nmX0 : ∀ a, a < 2 → ∀ b, b < 2 → a ≠ b → (TX0 a).2.1 ≠ (TX0 b).2.1 := by decide +kernel
theorem tyX0_ok : ∀ k, k < 2 → parseFieldDescriptor (TX0 k).2.2.1 = some (tyX0 k) := by decide +kernel
abbrev cX0_init : ByteArray := prog_2_method_1_code
def yX0_init : MethodName := ⟨RX0, "<init>", "()V"⟩
abbrev cX0_canPass : ByteArray := prog_2_method_2_code
def yX0_canPass : MethodName := ⟨RX0, "canPass", "(LBoxballHall$Row;IZ)Z"⟩
abbrev cX0_goOver : ByteArray := prog_2_method_3_code
def yX0_goOver : MethodName := ⟨RX0, "goOver", "(LBoxballHall$Row;IIZ)I"⟩
abbrev cX0_countPickups : ByteArray := prog_2_method_4_code
def yX0_countPickups : MethodName := ⟨RX0, "countPickups", "(LBoxballHall$Row;I)I"⟩
def RX1 : String := "BoxballHall$ChosenWaves"
def TX1 : u_T := fun k => match k with
  | 0 => ("BoxballHall$ChosenWaves", "sizes", "[I", true)
  | 1 => ("BoxballHall$ChosenWaves", "phases", "[I", true)
  | _ => ("BoxballHall$ChosenWaves", "count", "I", false)
def tyX1 : Nat → FieldType := fun k => match k with
  | 0 => .array .int
  | 1 => .array .int
  | _ => .int
abbrev wsX10 : List Cond := u_ws RX1 TX1 3
theorem nmX1 : ∀ a, a < 3 → ∀ b, b < 3 → a ≠ b → (TX1 a).2.1 ≠ (TX1 b).2.1 := by decide +kernel
theorem tyX1_ok : ∀ k, k < 3 → parseFieldDescriptor (TX1 k).2.2.1 = some (tyX1 k) := by decide +kernel
abbrev cX1_init : ByteArray := prog_3_method_1_code
def yX1_init : MethodName := ⟨RX1, "<init>", "()V"⟩
def RX2 : String := "BoxballHall$NumberSet"
def TX2 : u_T := fun k => match k with
  | _ => ("BoxballHall$NumberSet", "words", "[J", true)
def tyX2 : Nat → FieldType := fun k => match k with
  | _ => .array .long
abbrev wsX20 : List Cond := u_ws RX2 TX2 1
theorem nmX2 : ∀ a, a < 1 → ∀ b, b < 1 → a ≠ b → (TX2 a).2.1 ≠ (TX2 b).2.1 := by decide +kernel
theorem tyX2_ok : ∀ k, k < 1 → parseFieldDescriptor (TX2 k).2.2.1 = some (tyX2 k) := by decide +kernel
abbrev cX2_init : ByteArray := prog_4_method_1_code
def yX2_init : MethodName := ⟨RX2, "<init>", "()V"⟩
def RX3 : String := "BoxballHall$Pairs"
def TX3 : u_T := fun k => match k with
  | 0 => ("BoxballHall$Pairs", "standing", "[I", true)
  | 1 => ("BoxballHall$Pairs", "removed", "[I", true)
  | _ => ("BoxballHall$Pairs", "rounds", "I", false)
def tyX3 : Nat → FieldType := fun k => match k with
  | 0 => .array .int
  | 1 => .array .int
  | _ => .int
abbrev wsX30 : List Cond := u_ws RX3 TX3 3
theorem nmX3 : ∀ a, a < 3 → ∀ b, b < 3 → a ≠ b → (TX3 a).2.1 ≠ (TX3 b).2.1 := by decide +kernel
theorem tyX3_ok : ∀ k, k < 3 → parseFieldDescriptor (TX3 k).2.2.1 = some (tyX3 k) := by decide +kernel
abbrev cX3_init : ByteArray := prog_5_method_1_code
def yX3_init : MethodName := ⟨RX3, "<init>", "()V"⟩
abbrev cX3_removeAll : ByteArray := prog_5_method_2_code
def yX3_removeAll : MethodName := ⟨RX3, "removeAll", "(LBoxballHall$Row;)V"⟩
abbrev cX3_standUp : ByteArray := prog_5_method_3_code
def yX3_standUp : MethodName := ⟨RX3, "standUp", "(LBoxballHall$Row;)I"⟩
abbrev cX3_removeRound : ByteArray := prog_5_method_4_code
def yX3_removeRound : MethodName := ⟨RX3, "removeRound", "(I)I"⟩
abbrev cX3_inRound : ByteArray := prog_5_method_5_code
def yX3_inRound : MethodName := ⟨RX3, "inRound", "(I)I"⟩
abbrev cX3_countAll : ByteArray := prog_5_method_6_code
def yX3_countAll : MethodName := ⟨RX3, "countAll", "()I"⟩
abbrev cX3_sizeOf : ByteArray := prog_5_method_7_code
def yX3_sizeOf : MethodName := ⟨RX3, "sizeOf", "(I)I"⟩
abbrev cX3_sumOfSizes : ByteArray := prog_5_method_8_code
def yX3_sumOfSizes : MethodName := ⟨RX3, "sumOfSizes", "(I)I"⟩
def RX4 : String := "BoxballHall$Past"
def TX4 : u_T := fun k => match k with
  | 0 => ("BoxballHall$Past", "capacities", "[[I", true)
  | 1 => ("BoxballHall$Past", "balls", "[[I", true)
  | 2 => ("BoxballHall$Past", "kept", "I", false)
  | _ => ("BoxballHall$Past", "next", "I", false)
def tyX4 : Nat → FieldType := fun k => match k with
  | 0 => .array (.array .int)
  | 1 => .array (.array .int)
  | 2 => .int
  | _ => .int
abbrev wsX40 : List Cond := u_ws RX4 TX4 4
theorem nmX4 : ∀ a, a < 4 → ∀ b, b < 4 → a ≠ b → (TX4 a).2.1 ≠ (TX4 b).2.1 := by decide +kernel
theorem tyX4_ok : ∀ k, k < 4 → parseFieldDescriptor (TX4 k).2.2.1 = some (tyX4 k) := by decide +kernel
abbrev cX4_init : ByteArray := prog_6_method_1_code
def yX4_init : MethodName := ⟨RX4, "<init>", "()V"⟩
abbrev cX4_forget : ByteArray := prog_6_method_2_code
def yX4_forget : MethodName := ⟨RX4, "forget", "()V"⟩
abbrev cX4_hasRow : ByteArray := prog_6_method_3_code
def yX4_hasRow : MethodName := ⟨RX4, "hasRow", "(I)Z"⟩
abbrev cX4_slotOf : ByteArray := prog_6_method_4_code
def yX4_slotOf : MethodName := ⟨RX4, "slotOf", "(I)I"⟩
abbrev cX4_ballsOf : ByteArray := prog_6_method_5_code
def yX4_ballsOf : MethodName := ⟨RX4, "ballsOf", "(II)I"⟩
abbrev cX4_keep : ByteArray := prog_6_method_6_code
def yX4_keep : MethodName := ⟨RX4, "keep", "(LBoxballHall$Row;)V"⟩
abbrev cX4_giveBack : ByteArray := prog_6_method_7_code
def yX4_giveBack : MethodName := ⟨RX4, "giveBack", "(LBoxballHall$Row;)V"⟩
def RX5 : String := "BoxballHall$Queues"
def TX5 : u_T := fun k => match k with
  | 0 => ("BoxballHall$Queues", "times", "[[I", true)
  | _ => ("BoxballHall$Queues", "ways", "[I", true)
def tyX5 : Nat → FieldType := fun k => match k with
  | 0 => .array (.array .int)
  | _ => .array .int
abbrev wsX50 : List Cond := u_ws RX5 TX5 2
theorem nmX5 : ∀ a, a < 2 → ∀ b, b < 2 → a ≠ b → (TX5 a).2.1 ≠ (TX5 b).2.1 := by decide +kernel
theorem tyX5_ok : ∀ k, k < 2 → parseFieldDescriptor (TX5 k).2.2.1 = some (tyX5 k) := by decide +kernel
abbrev cX5_init : ByteArray := prog_7_method_1_code
def yX5_init : MethodName := ⟨RX5, "<init>", "()V"⟩
abbrev cX5_leavingOf : ByteArray := prog_7_method_2_code
def yX5_leavingOf : MethodName := ⟨RX5, "leavingOf", "(II)I"⟩
abbrev cX5_areLeavingsLongestWays : ByteArray := prog_7_method_3_code
def yX5_areLeavingsLongestWays : MethodName := ⟨RX5, "areLeavingsLongestWays", "()Z"⟩
abbrev cX5_longestWayTo : ByteArray := prog_7_method_4_code
def yX5_longestWayTo : MethodName := ⟨RX5, "longestWayTo", "(II)I"⟩
def RX6 : String := "BoxballHall$Row"
def TX6 : u_T := fun k => match k with
  | 0 => ("BoxballHall$Row", "capacities", "[I", true)
  | 1 => ("BoxballHall$Row", "balls", "[I", true)
  | 2 => ("BoxballHall$Row", "boxes", "I", false)
  | _ => ("BoxballHall$Row", "isRing", "Z", false)
def tyX6 : Nat → FieldType := fun k => match k with
  | 0 => .array .int
  | 1 => .array .int
  | 2 => .int
  | _ => .boolean
abbrev wsX60 : List Cond := u_ws RX6 TX6 4
theorem nmX6 : ∀ a, a < 4 → ∀ b, b < 4 → a ≠ b → (TX6 a).2.1 ≠ (TX6 b).2.1 := by decide +kernel
theorem tyX6_ok : ∀ k, k < 4 → parseFieldDescriptor (TX6 k).2.2.1 = some (tyX6 k) := by decide +kernel
abbrev cX6_init : ByteArray := prog_8_method_1_code
def yX6_init : MethodName := ⟨RX6, "<init>", "()V"⟩
abbrev cX6_clearTo : ByteArray := prog_8_method_2_code
def yX6_clearTo : MethodName := ⟨RX6, "clearTo", "(IIZ)V"⟩
abbrev cX6_become : ByteArray := prog_8_method_3_code
def yX6_become : MethodName := ⟨RX6, "become", "(LBoxballHall$Row;)V"⟩
abbrev cX6_takeCapacities : ByteArray := prog_8_method_6_code
def yX6_takeCapacities : MethodName := ⟨RX6, "takeCapacities", "([I)V"⟩
abbrev cX6_takeBalls : ByteArray := prog_8_method_7_code
def yX6_takeBalls : MethodName := ⟨RX6, "takeBalls", "([I)V"⟩
abbrev cX6_hasBallsOf : ByteArray := prog_8_method_8_code
def yX6_hasBallsOf : MethodName := ⟨RX6, "hasBallsOf", "(LBoxballHall$Row;)Z"⟩
abbrev cX6_isSimple : ByteArray := prog_8_method_9_code
def yX6_isSimple : MethodName := ⟨RX6, "isSimple", "()Z"⟩
abbrev cX6_sumOfBalls : ByteArray := prog_8_method_10_code
def yX6_sumOfBalls : MethodName := ⟨RX6, "sumOfBalls", "()I"⟩
abbrev cX6_countFilled : ByteArray := prog_8_method_11_code
def yX6_countFilled : MethodName := ⟨RX6, "countFilled", "()I"⟩
def RX7 : String := "BoxballHall$Runs"
def TX7 : u_T := fun k => match k with
  | 0 => ("BoxballHall$Runs", "places", "[I", true)
  | 1 => ("BoxballHall$Runs", "nextPlaces", "[I", true)
  | 2 => ("BoxballHall$Runs", "balls", "I", false)
  | _ => ("BoxballHall$Runs", "laid", "I", false)
def tyX7 : Nat → FieldType := fun k => match k with
  | 0 => .array .int
  | 1 => .array .int
  | 2 => .int
  | _ => .int
abbrev wsX70 : List Cond := u_ws RX7 TX7 4
theorem nmX7 : ∀ a, a < 4 → ∀ b, b < 4 → a ≠ b → (TX7 a).2.1 ≠ (TX7 b).2.1 := by decide +kernel
theorem tyX7_ok : ∀ k, k < 4 → parseFieldDescriptor (TX7 k).2.2.1 = some (tyX7 k) := by decide +kernel
abbrev cX7_init : ByteArray := prog_9_method_1_code
def yX7_init : MethodName := ⟨RX7, "<init>", "()V"⟩
abbrev cX7_walk : ByteArray := prog_9_method_2_code
def yX7_walk : MethodName := ⟨RX7, "walk", "(LBoxballHall$Row;I)V"⟩
abbrev cX7_goOn : ByteArray := prog_9_method_3_code
def yX7_goOn : MethodName := ⟨RX7, "goOn", "()V"⟩
abbrev cX7_layDown : ByteArray := prog_9_method_4_code
def yX7_layDown : MethodName := ⟨RX7, "layDown", "(II)V"⟩
abbrev cX7_isFirstBall : ByteArray := prog_9_method_5_code
def yX7_isFirstBall : MethodName := ⟨RX7, "isFirstBall", "(I)Z"⟩
abbrev cX7_countAll : ByteArray := prog_9_method_6_code
def yX7_countAll : MethodName := ⟨RX7, "countAll", "()I"⟩
abbrev cX7_findFirstBall : ByteArray := prog_9_method_7_code
def yX7_findFirstBall : MethodName := ⟨RX7, "findFirstBall", "(I)I"⟩
abbrev cX7_lengthFrom : ByteArray := prog_9_method_8_code
def yX7_lengthFrom : MethodName := ⟨RX7, "lengthFrom", "(I)I"⟩
def RX8 : String := "BoxballHall$ThreePieces"
def TX8 : u_T := fun k => match k with
  | 0 => ("BoxballHall$ThreePieces", "capacities", "[I", true)
  | _ => ("BoxballHall$ThreePieces", "balls", "[I", true)
def tyX8 : Nat → FieldType := fun k => match k with
  | 0 => .array .int
  | _ => .array .int
abbrev wsX80 : List Cond := u_ws RX8 TX8 2
theorem nmX8 : ∀ a, a < 2 → ∀ b, b < 2 → a ≠ b → (TX8 a).2.1 ≠ (TX8 b).2.1 := by decide +kernel
theorem tyX8_ok : ∀ k, k < 2 → parseFieldDescriptor (TX8 k).2.2.1 = some (tyX8 k) := by decide +kernel
abbrev cX8_init : ByteArray := prog_10_method_1_code
def yX8_init : MethodName := ⟨RX8, "<init>", "()V"⟩
def RX9 : String := "BoxballHall$TypedSizes"
def TX9 : u_T := fun k => match k with
  | 0 => ("BoxballHall$TypedSizes", "sizes", "[I", true)
  | _ => ("BoxballHall$TypedSizes", "count", "I", false)
def tyX9 : Nat → FieldType := fun k => match k with
  | 0 => .array .int
  | _ => .int
abbrev wsX90 : List Cond := u_ws RX9 TX9 2
theorem nmX9 : ∀ a, a < 2 → ∀ b, b < 2 → a ≠ b → (TX9 a).2.1 ≠ (TX9 b).2.1 := by decide +kernel
theorem tyX9_ok : ∀ k, k < 2 → parseFieldDescriptor (TX9 k).2.2.1 = some (tyX9 k) := by decide +kernel
abbrev cX9_init : ByteArray := prog_11_method_1_code
def yX9_init : MethodName := ⟨RX9, "<init>", "()V"⟩
def RX10 : String := "BoxballHall"
def TX10 : u_T := fun k => match k with
  | 0 => ("BoxballHall", "row", "LBoxballHall$Row;", true)
  | 1 => ("BoxballHall", "past", "LBoxballHall$Past;", true)
  | 2 => ("BoxballHall", "carrier", "LBoxballHall$Carrier;", true)
  | 3 => ("BoxballHall", "pairs", "LBoxballHall$Pairs;", true)
  | 4 => ("BoxballHall", "runs", "LBoxballHall$Runs;", true)
  | 5 => ("BoxballHall", "pieces", "LBoxballHall$ThreePieces;", true)
  | 6 => ("BoxballHall", "chosen", "LBoxballHall$ChosenWaves;", true)
  | 7 => ("BoxballHall", "typed", "LBoxballHall$TypedSizes;", true)
  | 8 => ("BoxballHall", "images", "LBoxballHall$NumberSet;", true)
  | 9 => ("BoxballHall", "queues", "LBoxballHall$Queues;", true)
  | 10 => ("BoxballHall", "thought", "LBoxballHall$Row;", true)
  | _ => ("BoxballHall", "otherThought", "LBoxballHall$Row;", true)
def tyX10 : Nat → FieldType := fun k => match k with
  | 0 => .object "BoxballHall$Row"
  | 1 => .object "BoxballHall$Past"
  | 2 => .object "BoxballHall$Carrier"
  | 3 => .object "BoxballHall$Pairs"
  | 4 => .object "BoxballHall$Runs"
  | 5 => .object "BoxballHall$ThreePieces"
  | 6 => .object "BoxballHall$ChosenWaves"
  | 7 => .object "BoxballHall$TypedSizes"
  | 8 => .object "BoxballHall$NumberSet"
  | 9 => .object "BoxballHall$Queues"
  | 10 => .object "BoxballHall$Row"
  | _ => .object "BoxballHall$Row"
abbrev wsX100 : List Cond := u_ws RX10 TX10 12
theorem nmX10 : ∀ a, a < 12 → ∀ b, b < 12 → a ≠ b → (TX10 a).2.1 ≠ (TX10 b).2.1 := by decide +kernel
theorem tyX10_ok : ∀ k, k < 12 → parseFieldDescriptor (TX10 k).2.2.1 = some (tyX10 k) := by decide +kernel
abbrev cX10_init : ByteArray := prog_1_method_1_code
def yX10_init : MethodName := ⟨RX10, "<init>", "()V"⟩
abbrev cX10_setRow : ByteArray := prog_1_method_2_code
def yX10_setRow : MethodName := ⟨RX10, "setRow", "(IIZ)I"⟩
abbrev cX10_setCapacity : ByteArray := prog_1_method_3_code
def yX10_setCapacity : MethodName := ⟨RX10, "setCapacity", "(II)I"⟩
abbrev cX10_setBalls : ByteArray := prog_1_method_4_code
def yX10_setBalls : MethodName := ⟨RX10, "setBalls", "(II)I"⟩
abbrev cX10_getBalls : ByteArray := prog_1_method_5_code
def yX10_getBalls : MethodName := ⟨RX10, "getBalls", "(I)I"⟩
abbrev cX10_countBalls : ByteArray := prog_1_method_6_code
def yX10_countBalls : MethodName := ⟨RX10, "countBalls", "()I"⟩
abbrev cX10_step : ByteArray := prog_1_method_7_code
def yX10_step : MethodName := ⟨RX10, "step", "(I)I"⟩
abbrev cX10_stepBack : ByteArray := prog_1_method_8_code
def yX10_stepBack : MethodName := ⟨RX10, "stepBack", "(I)I"⟩
abbrev cX10_run : ByteArray := prog_1_method_9_code
def yX10_run : MethodName := ⟨RX10, "run", "(II)I"⟩
abbrev cX10_countKept : ByteArray := prog_1_method_10_code
def yX10_countKept : MethodName := ⟨RX10, "countKept", "()I"⟩
abbrev cX10_getPast : ByteArray := prog_1_method_11_code
def yX10_getPast : MethodName := ⟨RX10, "getPast", "(II)I"⟩
abbrev cX10_undo : ByteArray := prog_1_method_12_code
def yX10_undo : MethodName := ⟨RX10, "undo", "()I"⟩
abbrev cX10_getFilledBits : ByteArray := prog_1_method_39_code
def yX10_getFilledBits : MethodName := ⟨RX10, "getFilledBits", "()I"⟩
abbrev cX10_isSound : ByteArray := prog_1_method_42_code
def yX10_isSound : MethodName := ⟨RX10, "isSound", "()Z"⟩
abbrev cX10_demandRange : ByteArray := prog_1_method_43_code
def yX10_demandRange : MethodName := ⟨RX10, "demandRange", "(III)V"⟩
abbrev cX10_demandBox : ByteArray := prog_1_method_46_code
def yX10_demandBox : MethodName := ⟨RX10, "demandBox", "(I)V"⟩
abbrev cX10_stepTo : ByteArray := prog_1_method_48_code
def yX10_stepTo : MethodName := ⟨RX10, "stepTo", "(IZ)I"⟩
abbrev cX10_takeStep : ByteArray := prog_1_method_49_code
def yX10_takeStep : MethodName := ⟨RX10, "takeStep", "()V"⟩
abbrev cX10_isTurnedBack : ByteArray := prog_1_method_56_code
def yX10_isTurnedBack : MethodName := ⟨RX10, "isTurnedBack", "()Z"⟩
abbrev cX10_areWavesSound : ByteArray := prog_1_method_57_code
def yX10_areWavesSound : MethodName := ⟨RX10, "areWavesSound", "()Z"⟩
abbrev cX10_areEnergiesSums : ByteArray := prog_1_method_58_code
def yX10_areEnergiesSums : MethodName := ⟨RX10, "areEnergiesSums", "()Z"⟩
abbrev cX10_areRunsWaves : ByteArray := prog_1_method_59_code
def yX10_areRunsWaves : MethodName := ⟨RX10, "areRunsWaves", "()Z"⟩
abbrev cX10_ballsLeftBehind : ByteArray := prog_1_method_60_code
def yX10_ballsLeftBehind : MethodName := ⟨RX10, "ballsLeftBehind", "(IIII)I"⟩
abbrev cX10_bitsOfShare : ByteArray := prog_1_method_63_code
def yX10_bitsOfShare : MethodName := ⟨RX10, "bitsOfShare", "(F)I"⟩
def RX11 : String := "BoxballHallModel"
def TX11 : u_T := fun k => match k with
  | _ => ("", "", "", false)
def tyX11 : Nat → FieldType := fun k => match k with
  | _ => .int
abbrev wsX110 : List Cond := u_ws RX11 TX11 0
theorem nmX11 : ∀ a, a < 0 → ∀ b, b < 0 → a ≠ b → (TX11 a).2.1 ≠ (TX11 b).2.1 := by decide +kernel
theorem tyX11_ok : ∀ k, k < 0 → parseFieldDescriptor (TX11 k).2.2.1 = some (tyX11 k) := by decide +kernel
def RJx145de : String := "java/io/Serializable"
def TJx145de : u_T := fun k => match k with
  | _ => ("", "", "", false)
def tyJx145de : Nat → FieldType := fun k => match k with
  | _ => .int
abbrev wsJx145de0 : List Cond := u_ws RJx145de TJx145de 0
theorem nmJx145de : ∀ a, a < 0 → ∀ b, b < 0 → a ≠ b → (TJx145de a).2.1 ≠ (TJx145de b).2.1 := by decide +kernel
theorem tyJx145de_ok : ∀ k, k < 0 → parseFieldDescriptor (TJx145de k).2.2.1 = some (tyJx145de k) := by decide +kernel
def RJx00060 : String := "java/lang/ArrayIndexOutOfBoundsException"
def TJx00060 : u_T := fun k => match k with
  | 0 => ("java/lang/Throwable", "backtrace", "Ljava/lang/Object;", false)
  | 1 => ("java/lang/Throwable", "detailMessage", "Ljava/lang/String;", false)
  | 2 => ("java/lang/Throwable", "cause", "Ljava/lang/Throwable;", false)
  | 3 => ("java/lang/Throwable", "stackTrace", "[Ljava/lang/StackTraceElement;", false)
  | 4 => ("java/lang/Throwable", "depth", "I", false)
  | _ => ("java/lang/Throwable", "suppressedExceptions", "Ljava/util/List;", false)
def tyJx00060 : Nat → FieldType := fun k => match k with
  | 0 => .object "java/lang/Object"
  | 1 => .object "java/lang/String"
  | 2 => .object "java/lang/Throwable"
  | 3 => .array (.object "java/lang/StackTraceElement")
  | 4 => .int
  | _ => .object "java/util/List"
abbrev wsJx000600 : List Cond := u_ws RJx00060 TJx00060 6
theorem nmJx00060 : ∀ a, a < 6 → ∀ b, b < 6 → a ≠ b → (TJx00060 a).2.1 ≠ (TJx00060 b).2.1 := by decide +kernel
theorem tyJx00060_ok : ∀ k, k < 6 → parseFieldDescriptor (TJx00060 k).2.2.1 = some (tyJx00060 k) := by decide +kernel
abbrev cJx00060_init_a7421 : ByteArray := prog_15_method_2_code
def yJx00060_init_a7421 : MethodName := ⟨RJx00060, "<init>", "(Ljava/lang/String;)V"⟩
def RJx8e188 : String := "java/lang/Cloneable"
def TJx8e188 : u_T := fun k => match k with
  | _ => ("", "", "", false)
def tyJx8e188 : Nat → FieldType := fun k => match k with
  | _ => .int
abbrev wsJx8e1880 : List Cond := u_ws RJx8e188 TJx8e188 0
theorem nmJx8e188 : ∀ a, a < 0 → ∀ b, b < 0 → a ≠ b → (TJx8e188 a).2.1 ≠ (TJx8e188 b).2.1 := by decide +kernel
theorem tyJx8e188_ok : ∀ k, k < 0 → parseFieldDescriptor (TJx8e188 k).2.2.1 = some (tyJx8e188 k) := by decide +kernel
def RJxb160c : String := "java/lang/Comparable"
def TJxb160c : u_T := fun k => match k with
  | _ => ("", "", "", false)
def tyJxb160c : Nat → FieldType := fun k => match k with
  | _ => .int
abbrev wsJxb160c0 : List Cond := u_ws RJxb160c TJxb160c 0
theorem nmJxb160c : ∀ a, a < 0 → ∀ b, b < 0 → a ≠ b → (TJxb160c a).2.1 ≠ (TJxb160c b).2.1 := by decide +kernel
theorem tyJxb160c_ok : ∀ k, k < 0 → parseFieldDescriptor (TJxb160c k).2.2.1 = some (tyJxb160c k) := by decide +kernel
def RJxf58ca : String := "java/lang/Float"
def TJxf58ca : u_T := fun k => match k with
  | _ => ("", "", "", false)
def tyJxf58ca : Nat → FieldType := fun k => match k with
  | _ => .int
abbrev wsJxf58ca0 : List Cond := u_ws RJxf58ca TJxf58ca 0
theorem nmJxf58ca : ∀ a, a < 0 → ∀ b, b < 0 → a ≠ b → (TJxf58ca a).2.1 ≠ (TJxf58ca b).2.1 := by decide +kernel
theorem tyJxf58ca_ok : ∀ k, k < 0 → parseFieldDescriptor (TJxf58ca k).2.2.1 = some (tyJxf58ca k) := by decide +kernel
abbrev cJxf58ca_isNaN_12338 : ByteArray := prog_19_method_6_code
def yJxf58ca_isNaN_12338 : MethodName := ⟨RJxf58ca, "isNaN", "(F)Z"⟩
abbrev cJxf58ca_floatToIntBits_5c35a : ByteArray := prog_19_method_24_code
def yJxf58ca_floatToIntBits_5c35a : MethodName := ⟨RJxf58ca, "floatToIntBits", "(F)I"⟩
def RJ9 : String := "java/lang/Math"
def TJ9 : u_T := fun k => match k with
  | _ => ("", "", "", false)
def tyJ9 : Nat → FieldType := fun k => match k with
  | _ => .int
abbrev wsJ90 : List Cond := u_ws RJ9 TJ9 0
theorem nmJ9 : ∀ a, a < 0 → ∀ b, b < 0 → a ≠ b → (TJ9 a).2.1 ≠ (TJ9 b).2.1 := by decide +kernel
theorem tyJ9_ok : ∀ k, k < 0 → parseFieldDescriptor (TJ9 k).2.2.1 = some (tyJ9 k) := by decide +kernel
abbrev cJ9_floorMod_7cf53 : ByteArray := prog_22_method_50_code
def yJ9_floorMod_7cf53 : MethodName := ⟨RJ9, "floorMod", "(II)I"⟩
abbrev cJ9_max_7cf53 : ByteArray := prog_22_method_65_code
def yJ9_max_7cf53 : MethodName := ⟨RJ9, "max", "(II)I"⟩
abbrev cJ9_min_7cf53 : ByteArray := prog_22_method_69_code
def yJ9_min_7cf53 : MethodName := ⟨RJ9, "min", "(II)I"⟩
def RJxd2413 : String := "java/lang/Number"
def TJxd2413 : u_T := fun k => match k with
  | _ => ("", "", "", false)
def tyJxd2413 : Nat → FieldType := fun k => match k with
  | _ => .int
abbrev wsJxd24130 : List Cond := u_ws RJxd2413 TJxd2413 0
theorem nmJxd2413 : ∀ a, a < 0 → ∀ b, b < 0 → a ≠ b → (TJxd2413 a).2.1 ≠ (TJxd2413 b).2.1 := by decide +kernel
theorem tyJxd2413_ok : ∀ k, k < 0 → parseFieldDescriptor (TJxd2413 k).2.2.1 = some (tyJxd2413 k) := by decide +kernel
def RJ0 : String := "java/lang/String"
def TJ0 : u_T := fun k => match k with
  | 0 => ("java/lang/String", "value", "[B", true)
  | _ => ("java/lang/String", "coder", "B", true)
def tyJ0 : Nat → FieldType := fun k => match k with
  | 0 => .array .byte
  | _ => .byte
abbrev wsJ00 : List Cond := u_ws RJ0 TJ0 2
theorem nmJ0 : ∀ a, a < 2 → ∀ b, b < 2 → a ≠ b → (TJ0 a).2.1 ≠ (TJ0 b).2.1 := by decide +kernel
theorem tyJ0_ok : ∀ k, k < 2 → parseFieldDescriptor (TJ0 k).2.2.1 = some (tyJ0 k) := by decide +kernel
def RJxfd54e : String := "java/lang/constant/Constable"
def TJxfd54e : u_T := fun k => match k with
  | _ => ("", "", "", false)
def tyJxfd54e : Nat → FieldType := fun k => match k with
  | _ => .int
abbrev wsJxfd54e0 : List Cond := u_ws RJxfd54e TJxfd54e 0
theorem nmJxfd54e : ∀ a, a < 0 → ∀ b, b < 0 → a ≠ b → (TJxfd54e a).2.1 ≠ (TJxfd54e b).2.1 := by decide +kernel
theorem tyJxfd54e_ok : ∀ k, k < 0 → parseFieldDescriptor (TJxfd54e k).2.2.1 = some (tyJxfd54e k) := by decide +kernel
def RJx3cf43 : String := "java/lang/constant/ConstantDesc"
def TJx3cf43 : u_T := fun k => match k with
  | _ => ("", "", "", false)
def tyJx3cf43 : Nat → FieldType := fun k => match k with
  | _ => .int
abbrev wsJx3cf430 : List Cond := u_ws RJx3cf43 TJx3cf43 0
theorem nmJx3cf43 : ∀ a, a < 0 → ∀ b, b < 0 → a ≠ b → (TJx3cf43 a).2.1 ≠ (TJx3cf43 b).2.1 := by decide +kernel
theorem tyJx3cf43_ok : ∀ k, k < 0 → parseFieldDescriptor (TJx3cf43 k).2.2.1 = some (tyJx3cf43 k) := by decide +kernel
def RJ7 : String := "java/util/Arrays"
def TJ7 : u_T := fun k => match k with
  | _ => ("", "", "", false)
def tyJ7 : Nat → FieldType := fun k => match k with
  | _ => .int
abbrev wsJ70 : List Cond := u_ws RJ7 TJ7 0
theorem nmJ7 : ∀ a, a < 0 → ∀ b, b < 0 → a ≠ b → (TJ7 a).2.1 ≠ (TJ7 b).2.1 := by decide +kernel
theorem tyJ7_ok : ∀ k, k < 0 → parseFieldDescriptor (TJ7 k).2.2.1 = some (tyJ7 k) := by decide +kernel
abbrev cJ7_fill_53178 : ByteArray := prog_30_method_103_code
def yJ7_fill_53178 : MethodName := ⟨RJ7, "fill", "([II)V"⟩
def RL : String := "BoxballHallLaw"
abbrev cL_cell : ByteArray := method_2_code
def yL_cell : MethodName := ⟨RL, "cell", "([II)I"⟩
abbrev cL_setRow : ByteArray := method_3_code
def yL_setRow : MethodName := ⟨RL, "setRow", "(LBoxballHall;IIZ)I"⟩
abbrev cL_setCapacity : ByteArray := method_4_code
def yL_setCapacity : MethodName := ⟨RL, "setCapacity", "(LBoxballHall;II)I"⟩
abbrev cL_setBalls : ByteArray := method_5_code
def yL_setBalls : MethodName := ⟨RL, "setBalls", "(LBoxballHall;II)I"⟩
abbrev cL_getBalls : ByteArray := method_6_code
def yL_getBalls : MethodName := ⟨RL, "getBalls", "(LBoxballHall;I)I"⟩
abbrev cL_step : ByteArray := method_7_code
def yL_step : MethodName := ⟨RL, "step", "(LBoxballHall;I)I"⟩
abbrev cL_stepBack : ByteArray := method_8_code
def yL_stepBack : MethodName := ⟨RL, "stepBack", "(LBoxballHall;I)I"⟩
abbrev cL_run : ByteArray := method_9_code
def yL_run : MethodName := ⟨RL, "run", "(LBoxballHall;II)I"⟩
abbrev cL_getPast : ByteArray := method_10_code
def yL_getPast : MethodName := ⟨RL, "getPast", "(LBoxballHall;II)I"⟩
abbrev cL_undo : ByteArray := method_11_code
def yL_undo : MethodName := ⟨RL, "undo", "(LBoxballHall;)I"⟩
abbrev cL_in : ByteArray := method_12_code
def yL_in : MethodName := ⟨RL, "in", "([III)I"⟩
abbrev cL_law : ByteArray := code
def yL_law : MethodName := ⟨RL, "law", "([I)Z"⟩
-- ===== c_ data: the classes whose objects are told of, their fields' types, the words
def c_cl : List vw_C := [(RX0, TX0, 2), (RX1, TX1, 3), (RX2, TX2, 1), (RX3, TX3, 3), (RX4, TX4, 4), (RX5, TX5, 2), (RX6, TX6, 4), (RX7, TX7, 4), (RX8, TX8, 2), (RX9, TX9, 2), (RX10, TX10, 12)]
def c_ty : Nat → Nat → FieldType := fun k => match k with
  | 0 => tyX0
  | 1 => tyX1
  | 2 => tyX2
  | 3 => tyX3
  | 4 => tyX4
  | 5 => tyX5
  | 6 => tyX6
  | 7 => tyX7
  | 8 => tyX8
  | 9 => tyX9
  | _ => tyX10
def c_nf : Nat → Nat := fun k => match k with
  | 0 => 2
  | 1 => 3
  | 2 => 1
  | 3 => 3
  | 4 => 4
  | 5 => 2
  | 6 => 4
  | 7 => 4
  | 8 => 2
  | 9 => 2
  | _ => 12
def c_host : String := "BoxballHall"
theorem c_in0 : ∀ w ∈ u_ws RX0 TX0 2, w ∈ lw_tbl := by decide +kernel
theorem c_in1 : ∀ w ∈ u_ws RX1 TX1 3, w ∈ lw_tbl := by decide +kernel
theorem c_in2 : ∀ w ∈ u_ws RX2 TX2 1, w ∈ lw_tbl := by decide +kernel
theorem c_in3 : ∀ w ∈ u_ws RX3 TX3 3, w ∈ lw_tbl := by decide +kernel
theorem c_in4 : ∀ w ∈ u_ws RX4 TX4 4, w ∈ lw_tbl := by decide +kernel
theorem c_in5 : ∀ w ∈ u_ws RX5 TX5 2, w ∈ lw_tbl := by decide +kernel
theorem c_in6 : ∀ w ∈ u_ws RX6 TX6 4, w ∈ lw_tbl := by decide +kernel
theorem c_in7 : ∀ w ∈ u_ws RX7 TX7 4, w ∈ lw_tbl := by decide +kernel
theorem c_in8 : ∀ w ∈ u_ws RX8 TX8 2, w ∈ lw_tbl := by decide +kernel
theorem c_in9 : ∀ w ∈ u_ws RX9 TX9 2, w ∈ lw_tbl := by decide +kernel
theorem c_in10 : ∀ w ∈ u_ws RX10 TX10 12, w ∈ lw_tbl := by decide +kernel
/-- what is so of each class of the list -/
def c_clOk (k : Nat) (q : vw_C) : Prop := (∀ w ∈ u_ws q.1 q.2.1 q.2.2, w ∈ lw_tbl) ∧ (∀ j, j < q.2.2 → parseFieldDescriptor (q.2.1 j).2.2.1 = some (c_ty k j)) ∧ (∀ a, a < q.2.2 → ∀ b, b < q.2.2 → a ≠ b → (q.2.1 a).2.1 ≠ (q.2.1 b).2.1) ∧ c_nf k = q.2.2
theorem c_cl_ok : ∀ k q, c_cl[k]? = some q → c_clOk k q
  | 0, q, h => by cases h; exact ⟨c_in0, tyX0_ok, nmX0, rfl⟩
  | 1, q, h => by cases h; exact ⟨c_in1, tyX1_ok, nmX1, rfl⟩
  | 2, q, h => by cases h; exact ⟨c_in2, tyX2_ok, nmX2, rfl⟩
  | 3, q, h => by cases h; exact ⟨c_in3, tyX3_ok, nmX3, rfl⟩
  | 4, q, h => by cases h; exact ⟨c_in4, tyX4_ok, nmX4, rfl⟩
  | 5, q, h => by cases h; exact ⟨c_in5, tyX5_ok, nmX5, rfl⟩
  | 6, q, h => by cases h; exact ⟨c_in6, tyX6_ok, nmX6, rfl⟩
  | 7, q, h => by cases h; exact ⟨c_in7, tyX7_ok, nmX7, rfl⟩
  | 8, q, h => by cases h; exact ⟨c_in8, tyX8_ok, nmX8, rfl⟩
  | 9, q, h => by cases h; exact ⟨c_in9, tyX9_ok, nmX9, rfl⟩
  | 10, q, h => by cases h; exact ⟨c_in10, tyX10_ok, nmX10, rfl⟩
  | k + 11, q, h => by simp [c_cl] at h
/-- pairs of exceptions of which the first is none of the second -/
def c_NC : List (String × String) := [("java/lang/IllegalArgumentException", "java/lang/IndexOutOfBoundsException"), ("java/lang/IndexOutOfBoundsException", "java/util/NoSuchElementException"), ("java/lang/UnsupportedOperationException", "java/lang/IllegalArgumentException")]
