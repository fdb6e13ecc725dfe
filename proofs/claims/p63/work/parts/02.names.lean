def RX0 : String := "TrainDecoder$1"
def TX0 : u_T := fun k => match k with
  | _ => ("", "", "", false)
def tyX0 : Nat → FieldType := fun k => match k with
  | _ => .int
theorem nmX0 : ∀ a, a < 0 → ∀ b, b < 0 → a ≠ b → (TX0 a).2.1 ≠ (TX0 b).2.1 := by decide +kernel
theorem tyX0_ok : ∀ k, k < 0 → parseFieldDescriptor (TX0 k).2.2.1 = some (tyX0 k) := by decide +kernel
def RX1 : String := "TrainDecoder$Command"
def TX1 : u_T := fun k => match k with
  | _ => ("", "", "", false)
def tyX1 : Nat → FieldType := fun k => match k with
  | _ => .int
theorem nmX1 : ∀ a, a < 0 → ∀ b, b < 0 → a ≠ b → (TX1 a).2.1 ≠ (TX1 b).2.1 := by decide +kernel
theorem tyX1_ok : ∀ k, k < 0 → parseFieldDescriptor (TX1 k).2.2.1 = some (tyX1 k) := by decide +kernel
def RX2 : String := "TrainDecoder$CommandKind"
def TX2 : u_T := fun k => match k with
  | _ => ("", "", "", false)
def tyX2 : Nat → FieldType := fun k => match k with
  | _ => .int
theorem nmX2 : ∀ a, a < 0 → ∀ b, b < 0 → a ≠ b → (TX2 a).2.1 ≠ (TX2 b).2.1 := by decide +kernel
theorem tyX2_ok : ∀ k, k < 0 → parseFieldDescriptor (TX2 k).2.2.1 = some (tyX2 k) := by decide +kernel
def RX3 : String := "TrainDecoder$History"
def TX3 : u_T := fun k => match k with
  | 0 => ("TrainDecoder$History", "saved", "[LTrainDecoder$Railway;", true)
  | _ => ("TrainDecoder$History", "count", "I", false)
def tyX3 : Nat → FieldType := fun k => match k with
  | 0 => .array (.object "TrainDecoder$Railway")
  | _ => .int
theorem nmX3 : ∀ a, a < 2 → ∀ b, b < 2 → a ≠ b → (TX3 a).2.1 ≠ (TX3 b).2.1 := by decide +kernel
theorem tyX3_ok : ∀ k, k < 2 → parseFieldDescriptor (TX3 k).2.2.1 = some (tyX3 k) := by decide +kernel
abbrev cX3_init : ByteArray := prog_5_method_1_code
def yX3_init : MethodName := ⟨RX3, "<init>", "()V"⟩
abbrev cX3_remember : ByteArray := prog_5_method_2_code
def yX3_remember : MethodName := ⟨RX3, "remember", "(LTrainDecoder$Railway;)V"⟩
abbrev cX3_takeBack : ByteArray := prog_5_method_3_code
def yX3_takeBack : MethodName := ⟨RX3, "takeBack", "(LTrainDecoder$Railway;)V"⟩
abbrev cX3_clear : ByteArray := prog_5_method_4_code
def yX3_clear : MethodName := ⟨RX3, "clear", "()V"⟩
def RX4 : String := "TrainDecoder$Input"
def TX4 : u_T := fun k => match k with
  | 0 => ("TrainDecoder$Input", "bytes", "[I", true)
  | _ => ("TrainDecoder$Input", "length", "I", false)
def tyX4 : Nat → FieldType := fun k => match k with
  | 0 => .array .int
  | _ => .int
theorem nmX4 : ∀ a, a < 2 → ∀ b, b < 2 → a ≠ b → (TX4 a).2.1 ≠ (TX4 b).2.1 := by decide +kernel
theorem tyX4_ok : ∀ k, k < 2 → parseFieldDescriptor (TX4 k).2.2.1 = some (tyX4 k) := by decide +kernel
abbrev cX4_init : ByteArray := prog_6_method_1_code
def yX4_init : MethodName := ⟨RX4, "<init>", "()V"⟩
abbrev cX4_hasRoomFor : ByteArray := prog_6_method_2_code
def yX4_hasRoomFor : MethodName := ⟨RX4, "hasRoomFor", "(I)Z"⟩
abbrev cX4_appendFourBytes : ByteArray := prog_6_method_3_code
def yX4_appendFourBytes : MethodName := ⟨RX4, "appendFourBytes", "(I)V"⟩
abbrev cX4_appendByte : ByteArray := prog_6_method_4_code
def yX4_appendByte : MethodName := ⟨RX4, "appendByte", "(I)V"⟩
abbrev cX4_clear : ByteArray := prog_6_method_5_code
def yX4_clear : MethodName := ⟨RX4, "clear", "()V"⟩
def RX5 : String := "TrainDecoder$Packet"
def TX5 : u_T := fun k => match k with
  | _ => ("", "", "", false)
def tyX5 : Nat → FieldType := fun k => match k with
  | _ => .int
theorem nmX5 : ∀ a, a < 0 → ∀ b, b < 0 → a ≠ b → (TX5 a).2.1 ≠ (TX5 b).2.1 := by decide +kernel
theorem tyX5_ok : ∀ k, k < 0 → parseFieldDescriptor (TX5 k).2.2.1 = some (tyX5 k) := by decide +kernel
abbrev cX5_of : ByteArray := prog_7_method_2_code
def yX5_of : MethodName := ⟨RX5, "of", "(III)I"⟩
abbrev cX5_intact : ByteArray := prog_7_method_3_code
def yX5_intact : MethodName := ⟨RX5, "intact", "(III)I"⟩
abbrev cX5_checkFor : ByteArray := prog_7_method_4_code
def yX5_checkFor : MethodName := ⟨RX5, "checkFor", "(II)I"⟩
abbrev cX5_addressOf : ByteArray := prog_7_method_5_code
def yX5_addressOf : MethodName := ⟨RX5, "addressOf", "(I)I"⟩
abbrev cX5_commandOf : ByteArray := prog_7_method_6_code
def yX5_commandOf : MethodName := ⟨RX5, "commandOf", "(I)I"⟩
abbrev cX5_isWhole : ByteArray := prog_7_method_7_code
def yX5_isWhole : MethodName := ⟨RX5, "isWhole", "(I)Z"⟩
abbrev cX5_isFor : ByteArray := prog_7_method_8_code
def yX5_isFor : MethodName := ⟨RX5, "isFor", "(II)Z"⟩
def RX6 : String := "TrainDecoder$PacketQueue"
def TX6 : u_T := fun k => match k with
  | 0 => ("TrainDecoder$PacketQueue", "packets", "[I", true)
  | 1 => ("TrainDecoder$PacketQueue", "length", "I", false)
  | 2 => ("TrainDecoder$PacketQueue", "put", "I", false)
  | 3 => ("TrainDecoder$PacketQueue", "sent", "I", false)
  | _ => ("TrainDecoder$PacketQueue", "cleared", "I", false)
def tyX6 : Nat → FieldType := fun k => match k with
  | 0 => .array .int
  | 1 => .int
  | 2 => .int
  | 3 => .int
  | _ => .int
theorem nmX6 : ∀ a, a < 5 → ∀ b, b < 5 → a ≠ b → (TX6 a).2.1 ≠ (TX6 b).2.1 := by decide +kernel
theorem tyX6_ok : ∀ k, k < 5 → parseFieldDescriptor (TX6 k).2.2.1 = some (tyX6 k) := by decide +kernel
abbrev cX6_init : ByteArray := prog_8_method_1_code
def yX6_init : MethodName := ⟨RX6, "<init>", "()V"⟩
abbrev cX6_isFull : ByteArray := prog_8_method_2_code
def yX6_isFull : MethodName := ⟨RX6, "isFull", "()Z"⟩
abbrev cX6_packetAt : ByteArray := prog_8_method_3_code
def yX6_packetAt : MethodName := ⟨RX6, "packetAt", "(I)I"⟩
abbrev cX6_putLast : ByteArray := prog_8_method_4_code
def yX6_putLast : MethodName := ⟨RX6, "putLast", "(I)Z"⟩
abbrev cX6_putFirst : ByteArray := prog_8_method_5_code
def yX6_putFirst : MethodName := ⟨RX6, "putFirst", "(I)Z"⟩
abbrev cX6_sendFirst : ByteArray := prog_8_method_6_code
def yX6_sendFirst : MethodName := ⟨RX6, "sendFirst", "()I"⟩
abbrev cX6_clear : ByteArray := prog_8_method_7_code
def yX6_clear : MethodName := ⟨RX6, "clear", "()I"⟩
abbrev cX6_reset : ByteArray := prog_8_method_8_code
def yX6_reset : MethodName := ⟨RX6, "reset", "()V"⟩
abbrev cX6_numberFor : ByteArray := prog_8_method_9_code
def yX6_numberFor : MethodName := ⟨RX6, "numberFor", "(I)I"⟩
abbrev cX6_surplus : ByteArray := prog_8_method_10_code
def yX6_surplus : MethodName := ⟨RX6, "surplus", "()I"⟩
abbrev cX6_copyFrom : ByteArray := prog_8_method_11_code
def yX6_copyFrom : MethodName := ⟨RX6, "copyFrom", "(LTrainDecoder$PacketQueue;)V"⟩
def RX7 : String := "TrainDecoder$Parser"
def TX7 : u_T := fun k => match k with
  | 0 => ("TrainDecoder$Parser", "tokens", "LTrainDecoder$Tokens;", true)
  | 1 => ("TrainDecoder$Parser", "code", "I", false)
  | 2 => ("TrainDecoder$Parser", "offset", "I", false)
  | _ => ("TrainDecoder$Parser", "commandCount", "I", false)
def tyX7 : Nat → FieldType := fun k => match k with
  | 0 => .object "TrainDecoder$Tokens"
  | 1 => .int
  | 2 => .int
  | _ => .int
theorem nmX7 : ∀ a, a < 4 → ∀ b, b < 4 → a ≠ b → (TX7 a).2.1 ≠ (TX7 b).2.1 := by decide +kernel
theorem tyX7_ok : ∀ k, k < 4 → parseFieldDescriptor (TX7 k).2.2.1 = some (tyX7 k) := by decide +kernel
abbrev cX7_init : ByteArray := prog_9_method_1_code
def yX7_init : MethodName := ⟨RX7, "<init>", "(LTrainDecoder$Input;)V"⟩
abbrev cX7_hasFailed : ByteArray := prog_9_method_2_code
def yX7_hasFailed : MethodName := ⟨RX7, "hasFailed", "()Z"⟩
abbrev cX7_parseRailway : ByteArray := prog_9_method_3_code
def yX7_parseRailway : MethodName := ⟨RX7, "parseRailway", "(ILTrainDecoder$Railway;)Z"⟩
abbrev cX7_takeTunnelsAndShorts : ByteArray := prog_9_method_4_code
def yX7_takeTunnelsAndShorts : MethodName := ⟨RX7, "takeTunnelsAndShorts", "(LTrainDecoder$Railway;)V"⟩
abbrev cX7_takeTrain : ByteArray := prog_9_method_5_code
def yX7_takeTrain : MethodName := ⟨RX7, "takeTrain", "(LTrainDecoder$Railway;)V"⟩
abbrev cX7_begin : ByteArray := prog_9_method_10_code
def yX7_begin : MethodName := ⟨RX7, "begin", "(I)V"⟩
abbrev cX7_isDone : ByteArray := prog_9_method_11_code
def yX7_isDone : MethodName := ⟨RX7, "isDone", "()Z"⟩
abbrev cX7_takeWord : ByteArray := prog_9_method_12_code
def yX7_takeWord : MethodName := ⟨RX7, "takeWord", "(Ljava/lang/String;)V"⟩
abbrev cX7_take : ByteArray := prog_9_method_13_code
def yX7_take : MethodName := ⟨RX7, "take", "(I)V"⟩
abbrev cX7_takeNumber : ByteArray := prog_9_method_14_code
def yX7_takeNumber : MethodName := ⟨RX7, "takeNumber", "(II)I"⟩
abbrev cX7_fail : ByteArray := prog_9_method_15_code
def yX7_fail : MethodName := ⟨RX7, "fail", "(II)V"⟩
def RX8 : String := "TrainDecoder$Railway"
def TX8 : u_T := fun k => match k with
  | 0 => ("TrainDecoder$Railway", "sections", "I", false)
  | 1 => ("TrainDecoder$Railway", "cutoffTime", "I", false)
  | 2 => ("TrainDecoder$Railway", "tunnels", "I", false)
  | 3 => ("TrainDecoder$Railway", "shorts", "I", false)
  | 4 => ("TrainDecoder$Railway", "tick", "I", false)
  | 5 => ("TrainDecoder$Railway", "remainingCutoff", "I", false)
  | 6 => ("TrainDecoder$Railway", "cutoffs", "I", false)
  | 7 => ("TrainDecoder$Railway", "trains", "[LTrainDecoder$Train;", false)
  | _ => ("TrainDecoder$Railway", "queue", "LTrainDecoder$PacketQueue;", true)
def tyX8 : Nat → FieldType := fun k => match k with
  | 0 => .int
  | 1 => .int
  | 2 => .int
  | 3 => .int
  | 4 => .int
  | 5 => .int
  | 6 => .int
  | 7 => .array (.object "TrainDecoder$Train")
  | _ => .object "TrainDecoder$PacketQueue"
theorem nmX8 : ∀ a, a < 9 → ∀ b, b < 9 → a ≠ b → (TX8 a).2.1 ≠ (TX8 b).2.1 := by decide +kernel
theorem tyX8_ok : ∀ k, k < 9 → parseFieldDescriptor (TX8 k).2.2.1 = some (tyX8 k) := by decide +kernel
abbrev cX8_init : ByteArray := prog_10_method_1_code
def yX8_init : MethodName := ⟨RX8, "<init>", "()V"⟩
abbrev cX8_lay : ByteArray := prog_10_method_2_code
def yX8_lay : MethodName := ⟨RX8, "lay", "(II)V"⟩
abbrev cX8_digTunnel : ByteArray := prog_10_method_3_code
def yX8_digTunnel : MethodName := ⟨RX8, "digTunnel", "(I)V"⟩
abbrev cX8_addTrain : ByteArray := prog_10_method_4_code
def yX8_addTrain : MethodName := ⟨RX8, "addTrain", "(IIII)V"⟩
abbrev cX8_hasSection : ByteArray := prog_10_method_5_code
def yX8_hasSection : MethodName := ⟨RX8, "hasSection", "(I)Z"⟩
abbrev cX8_isDug : ByteArray := prog_10_method_6_code
def yX8_isDug : MethodName := ⟨RX8, "isDug", "(I)Z"⟩
abbrev cX8_isShorted : ByteArray := prog_10_method_7_code
def yX8_isShorted : MethodName := ⟨RX8, "isShorted", "(I)Z"⟩
abbrev cX8_changeShort : ByteArray := prog_10_method_8_code
def yX8_changeShort : MethodName := ⟨RX8, "changeShort", "(IZ)Z"⟩
abbrev cX8_isPowered : ByteArray := prog_10_method_9_code
def yX8_isPowered : MethodName := ⟨RX8, "isPowered", "()Z"⟩
abbrev cX8_hasTicksLeft : ByteArray := prog_10_method_10_code
def yX8_hasTicksLeft : MethodName := ⟨RX8, "hasTicksLeft", "(I)Z"⟩
abbrev cX8_trainAt : ByteArray := prog_10_method_11_code
def yX8_trainAt : MethodName := ⟨RX8, "trainAt", "(I)LTrainDecoder$Train;"⟩
abbrev cX8_numberIn : ByteArray := prog_10_method_12_code
def yX8_numberIn : MethodName := ⟨RX8, "numberIn", "(I)I"⟩
abbrev cX8_numberWith : ByteArray := prog_10_method_13_code
def yX8_numberWith : MethodName := ⟨RX8, "numberWith", "(I)I"⟩
abbrev cX8_numberOfFastest : ByteArray := prog_10_method_14_code
def yX8_numberOfFastest : MethodName := ⟨RX8, "numberOfFastest", "()I"⟩
abbrev cX8_freeBehind : ByteArray := prog_10_method_15_code
def yX8_freeBehind : MethodName := ⟨RX8, "freeBehind", "(I)I"⟩
abbrev cX8_sectionBehind : ByteArray := prog_10_method_16_code
def yX8_sectionBehind : MethodName := ⟨RX8, "sectionBehind", "(I)I"⟩
abbrev cX8_sumOfSpeeds : ByteArray := prog_10_method_17_code
def yX8_sumOfSpeeds : MethodName := ⟨RX8, "sumOfSpeeds", "()I"⟩
abbrev cX8_sumOfObeyed : ByteArray := prog_10_method_18_code
def yX8_sumOfObeyed : MethodName := ⟨RX8, "sumOfObeyed", "()I"⟩
abbrev cX8_sumOfReceived : ByteArray := prog_10_method_19_code
def yX8_sumOfReceived : MethodName := ⟨RX8, "sumOfReceived", "()I"⟩
abbrev cX8_pairsInOneSection : ByteArray := prog_10_method_20_code
def yX8_pairsInOneSection : MethodName := ⟨RX8, "pairsInOneSection", "()I"⟩
abbrev cX8_signOf : ByteArray := prog_10_method_21_code
def yX8_signOf : MethodName := ⟨RX8, "signOf", "(I)I"⟩
abbrev cX8_pass : ByteArray := prog_10_method_22_code
def yX8_pass : MethodName := ⟨RX8, "pass", "(I)Z"⟩
abbrev cX8_driveTrains : ByteArray := prog_10_method_23_code
def yX8_driveTrains : MethodName := ⟨RX8, "driveTrains", "(I)V"⟩
abbrev cX8_move : ByteArray := prog_10_method_24_code
def yX8_move : MethodName := ⟨RX8, "move", "(LTrainDecoder$Train;)V"⟩
abbrev cX8_changePower : ByteArray := prog_10_method_25_code
def yX8_changePower : MethodName := ⟨RX8, "changePower", "()V"⟩
abbrev cX8_isShortMet : ByteArray := prog_10_method_26_code
def yX8_isShortMet : MethodName := ⟨RX8, "isShortMet", "()Z"⟩
abbrev cX8_copyFrom : ByteArray := prog_10_method_27_code
def yX8_copyFrom : MethodName := ⟨RX8, "copyFrom", "(LTrainDecoder$Railway;)V"⟩
abbrev cX8_copyTrains : ByteArray := prog_10_method_28_code
def yX8_copyTrains : MethodName := ⟨RX8, "copyTrains", "([LTrainDecoder$Train;)V"⟩
def RX9 : String := "TrainDecoder$ScriptRunner"
def TX9 : u_T := fun k => match k with
  | 0 => ("TrainDecoder$ScriptRunner", "railway", "LTrainDecoder$Railway;", true)
  | _ => ("TrainDecoder$ScriptRunner", "executed", "I", false)
def tyX9 : Nat → FieldType := fun k => match k with
  | 0 => .object "TrainDecoder$Railway"
  | _ => .int
theorem nmX9 : ∀ a, a < 2 → ∀ b, b < 2 → a ≠ b → (TX9 a).2.1 ≠ (TX9 b).2.1 := by decide +kernel
theorem tyX9_ok : ∀ k, k < 2 → parseFieldDescriptor (TX9 k).2.2.1 = some (tyX9 k) := by decide +kernel
abbrev cX9_init : ByteArray := prog_11_method_1_code
def yX9_init : MethodName := ⟨RX9, "<init>", "(LTrainDecoder$Railway;)V"⟩
def RX10 : String := "TrainDecoder$Tokens"
def TX10 : u_T := fun k => match k with
  | 0 => ("TrainDecoder$Tokens", "input", "LTrainDecoder$Input;", true)
  | 1 => ("TrainDecoder$Tokens", "textLength", "I", false)
  | 2 => ("TrainDecoder$Tokens", "kind", "I", false)
  | 3 => ("TrainDecoder$Tokens", "start", "I", false)
  | 4 => ("TrainDecoder$Tokens", "end", "I", false)
  | _ => ("TrainDecoder$Tokens", "value", "I", false)
def tyX10 : Nat → FieldType := fun k => match k with
  | 0 => .object "TrainDecoder$Input"
  | 1 => .int
  | 2 => .int
  | 3 => .int
  | 4 => .int
  | _ => .int
theorem nmX10 : ∀ a, a < 6 → ∀ b, b < 6 → a ≠ b → (TX10 a).2.1 ≠ (TX10 b).2.1 := by decide +kernel
theorem tyX10_ok : ∀ k, k < 6 → parseFieldDescriptor (TX10 k).2.2.1 = some (tyX10 k) := by decide +kernel
abbrev cX10_init : ByteArray := prog_12_method_1_code
def yX10_init : MethodName := ⟨RX10, "<init>", "(LTrainDecoder$Input;)V"⟩
abbrev cX10_begin : ByteArray := prog_12_method_2_code
def yX10_begin : MethodName := ⟨RX10, "begin", "(I)V"⟩
abbrev cX10_step : ByteArray := prog_12_method_3_code
def yX10_step : MethodName := ⟨RX10, "step", "()V"⟩
abbrev cX10_isWord : ByteArray := prog_12_method_4_code
def yX10_isWord : MethodName := ⟨RX10, "isWord", "(Ljava/lang/String;)Z"⟩
abbrev cX10_byteAt : ByteArray := prog_12_method_5_code
def yX10_byteAt : MethodName := ⟨RX10, "byteAt", "(I)I"⟩
abbrev cX10_kindOf : ByteArray := prog_12_method_6_code
def yX10_kindOf : MethodName := ⟨RX10, "kindOf", "(I)I"⟩
abbrev cX10_isSeparator : ByteArray := prog_12_method_7_code
def yX10_isSeparator : MethodName := ⟨RX10, "isSeparator", "(I)Z"⟩
abbrev cX10_isLetter : ByteArray := prog_12_method_8_code
def yX10_isLetter : MethodName := ⟨RX10, "isLetter", "(I)Z"⟩
abbrev cX10_isDigit : ByteArray := prog_12_method_9_code
def yX10_isDigit : MethodName := ⟨RX10, "isDigit", "(I)Z"⟩
def RX11 : String := "TrainDecoder$Train"
def TX11 : u_T := fun k => match k with
  | 0 => ("TrainDecoder$Train", "address", "I", false)
  | 1 => ("TrainDecoder$Train", "acceleration", "I", false)
  | 2 => ("TrainDecoder$Train", "divisor", "I", false)
  | 3 => ("TrainDecoder$Train", "section", "I", false)
  | 4 => ("TrainDecoder$Train", "advance", "I", false)
  | 5 => ("TrainDecoder$Train", "speed", "I", false)
  | 6 => ("TrainDecoder$Train", "target", "I", false)
  | 7 => ("TrainDecoder$Train", "brightness", "I", false)
  | 8 => ("TrainDecoder$Train", "duty", "I", false)
  | 9 => ("TrainDecoder$Train", "silence", "I", false)
  | 10 => ("TrainDecoder$Train", "entered", "I", false)
  | 11 => ("TrainDecoder$Train", "obeyed", "I", false)
  | 12 => ("TrainDecoder$Train", "rejected", "I", false)
  | 13 => ("TrainDecoder$Train", "unheard", "I", false)
  | _ => ("TrainDecoder$Train", "blocked", "I", false)
def tyX11 : Nat → FieldType := fun k => match k with
  | 0 => .int
  | 1 => .int
  | 2 => .int
  | 3 => .int
  | 4 => .int
  | 5 => .int
  | 6 => .int
  | 7 => .int
  | 8 => .int
  | 9 => .int
  | 10 => .int
  | 11 => .int
  | 12 => .int
  | 13 => .int
  | _ => .int
theorem nmX11 : ∀ a, a < 15 → ∀ b, b < 15 → a ≠ b → (TX11 a).2.1 ≠ (TX11 b).2.1 := by decide +kernel
theorem tyX11_ok : ∀ k, k < 15 → parseFieldDescriptor (TX11 k).2.2.1 = some (tyX11 k) := by decide +kernel
abbrev cX11_init : ByteArray := prog_13_method_1_code
def yX11_init : MethodName := ⟨RX11, "<init>", "()V"⟩
abbrev cX11_receive : ByteArray := prog_13_method_2_code
def yX11_receive : MethodName := ⟨RX11, "receive", "(IZ)Z"⟩
abbrev cX11_obey : ByteArray := prog_13_method_3_code
def yX11_obey : MethodName := ⟨RX11, "obey", "(I)V"⟩
abbrev cX11_countSilence : ByteArray := prog_13_method_4_code
def yX11_countSilence : MethodName := ⟨RX11, "countSilence", "(Z)V"⟩
abbrev cX11_changeSpeed : ByteArray := prog_13_method_5_code
def yX11_changeSpeed : MethodName := ⟨RX11, "changeSpeed", "(Z)V"⟩
abbrev cX11_changeBrightness : ByteArray := prog_13_method_6_code
def yX11_changeBrightness : MethodName := ⟨RX11, "changeBrightness", "(Z)V"⟩
abbrev cX11_isAtSectionEnd : ByteArray := prog_13_method_7_code
def yX11_isAtSectionEnd : MethodName := ⟨RX11, "isAtSectionEnd", "()Z"⟩
abbrev cX11_enter : ByteArray := prog_13_method_8_code
def yX11_enter : MethodName := ⟨RX11, "enter", "(I)V"⟩
abbrev cX11_block : ByteArray := prog_13_method_9_code
def yX11_block : MethodName := ⟨RX11, "block", "()V"⟩
abbrev cX11_afterBraking : ByteArray := prog_13_method_10_code
def yX11_afterBraking : MethodName := ⟨RX11, "afterBraking", "(I)I"⟩
abbrev cX11_decreasesToStop : ByteArray := prog_13_method_11_code
def yX11_decreasesToStop : MethodName := ⟨RX11, "decreasesToStop", "()I"⟩
abbrev cX11_distanceToStop : ByteArray := prog_13_method_12_code
def yX11_distanceToStop : MethodName := ⟨RX11, "distanceToStop", "()I"⟩
abbrev cX11_received : ByteArray := prog_13_method_13_code
def yX11_received : MethodName := ⟨RX11, "received", "()I"⟩
abbrev cX11_copyFrom : ByteArray := prog_13_method_14_code
def yX11_copyFrom : MethodName := ⟨RX11, "copyFrom", "(LTrainDecoder$Train;)V"⟩
def RX12 : String := "TrainDecoder"
def TX12 : u_T := fun k => match k with
  | 0 => ("TrainDecoder", "railway", "LTrainDecoder$Railway;", true)
  | 1 => ("TrainDecoder", "scratch", "LTrainDecoder$Railway;", true)
  | 2 => ("TrainDecoder", "snapshot", "LTrainDecoder$Railway;", true)
  | 3 => ("TrainDecoder", "hasSnapshot", "Z", false)
  | 4 => ("TrainDecoder", "history", "LTrainDecoder$History;", true)
  | 5 => ("TrainDecoder", "input", "LTrainDecoder$Input;", true)
  | 6 => ("TrainDecoder", "parser", "LTrainDecoder$Parser;", true)
  | 7 => ("TrainDecoder", "runner", "LTrainDecoder$ScriptRunner;", true)
  | 8 => ("TrainDecoder", "output", "[I", true)
  | _ => ("TrainDecoder", "outputLength", "I", false)
def tyX12 : Nat → FieldType := fun k => match k with
  | 0 => .object "TrainDecoder$Railway"
  | 1 => .object "TrainDecoder$Railway"
  | 2 => .object "TrainDecoder$Railway"
  | 3 => .boolean
  | 4 => .object "TrainDecoder$History"
  | 5 => .object "TrainDecoder$Input"
  | 6 => .object "TrainDecoder$Parser"
  | 7 => .object "TrainDecoder$ScriptRunner"
  | 8 => .array .int
  | _ => .int
theorem nmX12 : ∀ a, a < 10 → ∀ b, b < 10 → a ≠ b → (TX12 a).2.1 ≠ (TX12 b).2.1 := by decide +kernel
theorem tyX12_ok : ∀ k, k < 10 → parseFieldDescriptor (TX12 k).2.2.1 = some (tyX12 k) := by decide +kernel
abbrev cX12_init : ByteArray := prog_1_method_1_code
def yX12_init : MethodName := ⟨RX12, "<init>", "()V"⟩
abbrev cX12_appendText : ByteArray := prog_1_method_2_code
def yX12_appendText : MethodName := ⟨RX12, "appendText", "(IIIII)I"⟩
abbrev cX12_loadRailway : ByteArray := prog_1_method_3_code
def yX12_loadRailway : MethodName := ⟨RX12, "loadRailway", "(I)I"⟩
abbrev cX12_tick : ByteArray := prog_1_method_6_code
def yX12_tick : MethodName := ⟨RX12, "tick", "()I"⟩
abbrev cX12_sectionCount : ByteArray := prog_1_method_7_code
def yX12_sectionCount : MethodName := ⟨RX12, "sectionCount", "()I"⟩
abbrev cX12_isTunnel : ByteArray := prog_1_method_8_code
def yX12_isTunnel : MethodName := ⟨RX12, "isTunnel", "(I)Z"⟩
abbrev cX12_hasShort : ByteArray := prog_1_method_9_code
def yX12_hasShort : MethodName := ⟨RX12, "hasShort", "(I)Z"⟩
abbrev cX12_trainIn : ByteArray := prog_1_method_10_code
def yX12_trainIn : MethodName := ⟨RX12, "trainIn", "(I)I"⟩
abbrev cX12_tunnelCount : ByteArray := prog_1_method_11_code
def yX12_tunnelCount : MethodName := ⟨RX12, "tunnelCount", "()I"⟩
abbrev cX12_isPowerOn : ByteArray := prog_1_method_12_code
def yX12_isPowerOn : MethodName := ⟨RX12, "isPowerOn", "()Z"⟩
abbrev cX12_remainingCutoff : ByteArray := prog_1_method_13_code
def yX12_remainingCutoff : MethodName := ⟨RX12, "remainingCutoff", "()I"⟩
abbrev cX12_cutoffs : ByteArray := prog_1_method_14_code
def yX12_cutoffs : MethodName := ⟨RX12, "cutoffs", "()I"⟩
abbrev cX12_trainCount : ByteArray := prog_1_method_15_code
def yX12_trainCount : MethodName := ⟨RX12, "trainCount", "()I"⟩
abbrev cX12_address : ByteArray := prog_1_method_16_code
def yX12_address : MethodName := ⟨RX12, "address", "(I)I"⟩
abbrev cX12_trainWith : ByteArray := prog_1_method_17_code
def yX12_trainWith : MethodName := ⟨RX12, "trainWith", "(I)I"⟩
abbrev cX12_sectionOf : ByteArray := prog_1_method_18_code
def yX12_sectionOf : MethodName := ⟨RX12, "sectionOf", "(I)I"⟩
abbrev cX12_advance : ByteArray := prog_1_method_19_code
def yX12_advance : MethodName := ⟨RX12, "advance", "(I)I"⟩
abbrev cX12_speed : ByteArray := prog_1_method_20_code
def yX12_speed : MethodName := ⟨RX12, "speed", "(I)I"⟩
abbrev cX12_targetSpeed : ByteArray := prog_1_method_21_code
def yX12_targetSpeed : MethodName := ⟨RX12, "targetSpeed", "(I)I"⟩
abbrev cX12_brightness : ByteArray := prog_1_method_22_code
def yX12_brightness : MethodName := ⟨RX12, "brightness", "(I)I"⟩
abbrev cX12_duty : ByteArray := prog_1_method_23_code
def yX12_duty : MethodName := ⟨RX12, "duty", "(I)I"⟩
abbrev cX12_silence : ByteArray := prog_1_method_24_code
def yX12_silence : MethodName := ⟨RX12, "silence", "(I)I"⟩
abbrev cX12_sectionsEntered : ByteArray := prog_1_method_25_code
def yX12_sectionsEntered : MethodName := ⟨RX12, "sectionsEntered", "(I)I"⟩
abbrev cX12_obeyed : ByteArray := prog_1_method_26_code
def yX12_obeyed : MethodName := ⟨RX12, "obeyed", "(I)I"⟩
abbrev cX12_rejected : ByteArray := prog_1_method_27_code
def yX12_rejected : MethodName := ⟨RX12, "rejected", "(I)I"⟩
abbrev cX12_unheard : ByteArray := prog_1_method_28_code
def yX12_unheard : MethodName := ⟨RX12, "unheard", "(I)I"⟩
abbrev cX12_blockedTicks : ByteArray := prog_1_method_29_code
def yX12_blockedTicks : MethodName := ⟨RX12, "blockedTicks", "(I)I"⟩
abbrev cX12_fastestTrain : ByteArray := prog_1_method_30_code
def yX12_fastestTrain : MethodName := ⟨RX12, "fastestTrain", "()I"⟩
abbrev cX12_freeAhead : ByteArray := prog_1_method_31_code
def yX12_freeAhead : MethodName := ⟨RX12, "freeAhead", "(I)I"⟩
abbrev cX12_meanSpeed : ByteArray := prog_1_method_32_code
def yX12_meanSpeed : MethodName := ⟨RX12, "meanSpeed", "()D"⟩
abbrev cX12_obeyedShare : ByteArray := prog_1_method_33_code
def yX12_obeyedShare : MethodName := ⟨RX12, "obeyedShare", "()F"⟩
abbrev cX12_queueLength : ByteArray := prog_1_method_34_code
def yX12_queueLength : MethodName := ⟨RX12, "queueLength", "()I"⟩
abbrev cX12_packetAddress : ByteArray := prog_1_method_35_code
def yX12_packetAddress : MethodName := ⟨RX12, "packetAddress", "(I)I"⟩
abbrev cX12_packetCommand : ByteArray := prog_1_method_36_code
def yX12_packetCommand : MethodName := ⟨RX12, "packetCommand", "(I)I"⟩
abbrev cX12_isIntact : ByteArray := prog_1_method_37_code
def yX12_isIntact : MethodName := ⟨RX12, "isIntact", "(I)Z"⟩
abbrev cX12_packetsFor : ByteArray := prog_1_method_38_code
def yX12_packetsFor : MethodName := ⟨RX12, "packetsFor", "(I)I"⟩
abbrev cX12_sentPackets : ByteArray := prog_1_method_39_code
def yX12_sentPackets : MethodName := ⟨RX12, "sentPackets", "()I"⟩
abbrev cX12_checkOf : ByteArray := prog_1_method_40_code
def yX12_checkOf : MethodName := ⟨RX12, "checkOf", "(II)I"⟩
abbrev cX12_gap : ByteArray := prog_1_method_41_code
def yX12_gap : MethodName := ⟨RX12, "gap", "()I"⟩
abbrev cX12_brakingTicks : ByteArray := prog_1_method_42_code
def yX12_brakingTicks : MethodName := ⟨RX12, "brakingTicks", "(I)I"⟩
abbrev cX12_brakingDistance : ByteArray := prog_1_method_43_code
def yX12_brakingDistance : MethodName := ⟨RX12, "brakingDistance", "(I)I"⟩
abbrev cX12_sectionAfter : ByteArray := prog_1_method_44_code
def yX12_sectionAfter : MethodName := ⟨RX12, "sectionAfter", "(II)I"⟩
abbrev cX12_speedAfter : ByteArray := prog_1_method_45_code
def yX12_speedAfter : MethodName := ⟨RX12, "speedAfter", "(II)I"⟩
abbrev cX12_ticksToCutoff : ByteArray := prog_1_method_46_code
def yX12_ticksToCutoff : MethodName := ⟨RX12, "ticksToCutoff", "()I"⟩
abbrev cX12_trainAfter : ByteArray := prog_1_method_47_code
def yX12_trainAfter : MethodName := ⟨RX12, "trainAfter", "(II)LTrainDecoder$Train;"⟩
abbrev cX12_sendPacket : ByteArray := prog_1_method_48_code
def yX12_sendPacket : MethodName := ⟨RX12, "sendPacket", "(III)I"⟩
abbrev cX12_setSpeed : ByteArray := prog_1_method_49_code
def yX12_setSpeed : MethodName := ⟨RX12, "setSpeed", "(II)I"⟩
abbrev cX12_setLamp : ByteArray := prog_1_method_50_code
def yX12_setLamp : MethodName := ⟨RX12, "setLamp", "(II)I"⟩
abbrev cX12_stop : ByteArray := prog_1_method_51_code
def yX12_stop : MethodName := ⟨RX12, "stop", "(I)I"⟩
abbrev cX12_setShort : ByteArray := prog_1_method_52_code
def yX12_setShort : MethodName := ⟨RX12, "setShort", "(IZ)I"⟩
abbrev cX12_clearQueue : ByteArray := prog_1_method_53_code
def yX12_clearQueue : MethodName := ⟨RX12, "clearQueue", "()I"⟩
abbrev cX12_readdress : ByteArray := prog_1_method_54_code
def yX12_readdress : MethodName := ⟨RX12, "readdress", "(II)I"⟩
abbrev cX12_passTicks : ByteArray := prog_1_method_55_code
def yX12_passTicks : MethodName := ⟨RX12, "passTicks", "(I)I"⟩
abbrev cX12_enqueue : ByteArray := prog_1_method_57_code
def yX12_enqueue : MethodName := ⟨RX12, "enqueue", "(I)I"⟩
abbrev cX12_writeTrack : ByteArray := prog_1_method_58_code
def yX12_writeTrack : MethodName := ⟨RX12, "writeTrack", "()I"⟩
abbrev cX12_undoableCount : ByteArray := prog_1_method_60_code
def yX12_undoableCount : MethodName := ⟨RX12, "undoableCount", "()I"⟩
abbrev cX12_undo : ByteArray := prog_1_method_61_code
def yX12_undo : MethodName := ⟨RX12, "undo", "()I"⟩
abbrev cX12_saveSnapshot : ByteArray := prog_1_method_62_code
def yX12_saveSnapshot : MethodName := ⟨RX12, "saveSnapshot", "()V"⟩
abbrev cX12_restoreSnapshot : ByteArray := prog_1_method_63_code
def yX12_restoreSnapshot : MethodName := ⟨RX12, "restoreSnapshot", "()I"⟩
abbrev cX12_requireText : ByteArray := prog_1_method_64_code
def yX12_requireText : MethodName := ⟨RX12, "requireText", "(I)V"⟩
abbrev cX12_requireSection : ByteArray := prog_1_method_65_code
def yX12_requireSection : MethodName := ⟨RX12, "requireSection", "(I)V"⟩
abbrev cX12_requireTrain : ByteArray := prog_1_method_66_code
def yX12_requireTrain : MethodName := ⟨RX12, "requireTrain", "(I)LTrainDecoder$Train;"⟩
abbrev cX12_requirePacket : ByteArray := prog_1_method_67_code
def yX12_requirePacket : MethodName := ⟨RX12, "requirePacket", "(I)I"⟩
abbrev cX12_requireRoomInQueue : ByteArray := prog_1_method_68_code
def yX12_requireRoomInQueue : MethodName := ⟨RX12, "requireRoomInQueue", "()V"⟩
abbrev cX12_requireRange : ByteArray := prog_1_method_69_code
def yX12_requireRange : MethodName := ⟨RX12, "requireRange", "(III)V"⟩
def RX13 : String := "TrainDecoderModel"
def TX13 : u_T := fun k => match k with
  | _ => ("", "", "", false)
def tyX13 : Nat → FieldType := fun k => match k with
  | _ => .int
theorem nmX13 : ∀ a, a < 0 → ∀ b, b < 0 → a ≠ b → (TX13 a).2.1 ≠ (TX13 b).2.1 := by decide +kernel
theorem tyX13_ok : ∀ k, k < 0 → parseFieldDescriptor (TX13 k).2.2.1 = some (tyX13 k) := by decide +kernel
def RJ5 : String := "java/lang/AbstractStringBuilder"
def TJ5 : u_T := fun k => match k with
  | _ => ("", "", "", false)
def tyJ5 : Nat → FieldType := fun k => match k with
  | _ => .int
theorem nmJ5 : ∀ a, a < 0 → ∀ b, b < 0 → a ≠ b → (TJ5 a).2.1 ≠ (TJ5 b).2.1 := by decide +kernel
theorem tyJ5_ok : ∀ k, k < 0 → parseFieldDescriptor (TJ5 k).2.2.1 = some (tyJ5 k) := by decide +kernel
abbrev cJ5_init_a7421 : ByteArray := prog_16_method_3_code
def yJ5_init_a7421 : MethodName := ⟨RJ5, "<init>", "(Ljava/lang/String;)V"⟩
abbrev cJ5_length_8abf5 : ByteArray := prog_16_method_6_code
def yJ5_length_8abf5 : MethodName := ⟨RJ5, "length", "()I"⟩
abbrev cJ5_ensureCapacityInternal_d00df : ByteArray := prog_16_method_9_code
def yJ5_ensureCapacityInternal_d00df : MethodName := ⟨RJ5, "ensureCapacityInternal", "(I)V"⟩
abbrev cJ5_newCapacity_0f7a4 : ByteArray := prog_16_method_10_code
def yJ5_newCapacity_0f7a4 : MethodName := ⟨RJ5, "newCapacity", "(I)I"⟩
abbrev cJ5_inflate_da8c8 : ByteArray := prog_16_method_11_code
def yJ5_inflate_da8c8 : MethodName := ⟨RJ5, "inflate", "()V"⟩
abbrev cJ5_append_cf1ce : ByteArray := prog_16_method_22_code
def yJ5_append_cf1ce : MethodName := ⟨RJ5, "append", "(Ljava/lang/String;)Ljava/lang/AbstractStringBuilder;"⟩
abbrev cJ5_appendNull_278bc : ByteArray := prog_16_method_26_code
def yJ5_appendNull_278bc : MethodName := ⟨RJ5, "appendNull", "()Ljava/lang/AbstractStringBuilder;"⟩
abbrev cJ5_append_3fe6f : ByteArray := prog_16_method_31_code
def yJ5_append_3fe6f : MethodName := ⟨RJ5, "append", "(C)Ljava/lang/AbstractStringBuilder;"⟩
abbrev cJ5_append_c97b9 : ByteArray := prog_16_method_32_code
def yJ5_append_c97b9 : MethodName := ⟨RJ5, "append", "(I)Ljava/lang/AbstractStringBuilder;"⟩
abbrev cJ5_getValue_6d5f1 : ByteArray := prog_16_method_64_code
def yJ5_getValue_6d5f1 : MethodName := ⟨RJ5, "getValue", "()[B"⟩
abbrev cJ5_isLatin1_aae02 : ByteArray := prog_16_method_68_code
def yJ5_isLatin1_aae02 : MethodName := ⟨RJ5, "isLatin1", "()Z"⟩
abbrev cJ5_inflateIfNeededFor_a7421 : ByteArray := prog_16_method_71_code
def yJ5_inflateIfNeededFor_a7421 : MethodName := ⟨RJ5, "inflateIfNeededFor", "(Ljava/lang/String;)V"⟩
abbrev cJ5_putStringAt_47b60 : ByteArray := prog_16_method_73_code
def yJ5_putStringAt_47b60 : MethodName := ⟨RJ5, "putStringAt", "(ILjava/lang/String;)V"⟩
def RJx8e188 : String := "java/lang/Cloneable"
def TJx8e188 : u_T := fun k => match k with
  | _ => ("", "", "", false)
def tyJx8e188 : Nat → FieldType := fun k => match k with
  | _ => .int
theorem nmJx8e188 : ∀ a, a < 0 → ∀ b, b < 0 → a ≠ b → (TJx8e188 a).2.1 ≠ (TJx8e188 b).2.1 := by decide +kernel
theorem tyJx8e188_ok : ∀ k, k < 0 → parseFieldDescriptor (TJx8e188 k).2.2.1 = some (tyJx8e188 k) := by decide +kernel
def RJ6 : String := "java/lang/Integer"
def TJ6 : u_T := fun k => match k with
  | _ => ("", "", "", false)
def tyJ6 : Nat → FieldType := fun k => match k with
  | _ => .int
theorem nmJ6 : ∀ a, a < 0 → ∀ b, b < 0 → a ≠ b → (TJ6 a).2.1 ≠ (TJ6 b).2.1 := by decide +kernel
theorem tyJ6_ok : ∀ k, k < 0 → parseFieldDescriptor (TJ6 k).2.2.1 = some (tyJ6 k) := by decide +kernel
abbrev cJ6_getChars_ba4f3 : ByteArray := prog_22_method_12_code
def yJ6_getChars_ba4f3 : MethodName := ⟨RJ6, "getChars", "(II[B)I"⟩
abbrev cJ6_stringSize_0f7a4 : ByteArray := prog_22_method_13_code
def yJ6_stringSize_0f7a4 : MethodName := ⟨RJ6, "stringSize", "(I)I"⟩
abbrev cJ6_bitCount_0f7a4 : ByteArray := prog_22_method_49_code
def yJ6_bitCount_0f7a4 : MethodName := ⟨RJ6, "bitCount", "(I)I"⟩
def RJ9 : String := "java/lang/Math"
def TJ9 : u_T := fun k => match k with
  | _ => ("", "", "", false)
def tyJ9 : Nat → FieldType := fun k => match k with
  | _ => .int
theorem nmJ9 : ∀ a, a < 0 → ∀ b, b < 0 → a ≠ b → (TJ9 a).2.1 ≠ (TJ9 b).2.1 := by decide +kernel
theorem tyJ9_ok : ∀ k, k < 0 → parseFieldDescriptor (TJ9 k).2.2.1 = some (tyJ9 k) := by decide +kernel
abbrev cJ9_abs_0f7a4 : ByteArray := prog_23_method_59_code
def yJ9_abs_0f7a4 : MethodName := ⟨RJ9, "abs", "(I)I"⟩
abbrev cJ9_max_7cf53 : ByteArray := prog_23_method_65_code
def yJ9_max_7cf53 : MethodName := ⟨RJ9, "max", "(II)I"⟩
abbrev cJ9_min_7cf53 : ByteArray := prog_23_method_69_code
def yJ9_min_7cf53 : MethodName := ⟨RJ9, "min", "(II)I"⟩
def RJ0 : String := "java/lang/String"
def TJ0 : u_T := fun k => match k with
  | 0 => ("java/lang/String", "value", "[B", true)
  | 1 => ("java/lang/String", "coder", "B", true)
  | 2 => ("java/lang/String", "hash", "I", false)
  | _ => ("java/lang/String", "hashIsZero", "Z", false)
def tyJ0 : Nat → FieldType := fun k => match k with
  | 0 => .array .byte
  | 1 => .byte
  | 2 => .int
  | _ => .boolean
theorem nmJ0 : ∀ a, a < 4 → ∀ b, b < 4 → a ≠ b → (TJ0 a).2.1 ≠ (TJ0 b).2.1 := by decide +kernel
theorem tyJ0_ok : ∀ k, k < 4 → parseFieldDescriptor (TJ0 k).2.2.1 = some (tyJ0 k) := by decide +kernel
abbrev cJ0_init_81219 : ByteArray := prog_25_method_53_code
def yJ0_init_81219 : MethodName := ⟨RJ0, "<init>", "(Ljava/lang/StringBuilder;)V"⟩
abbrev cJ0_length_8abf5 : ByteArray := prog_25_method_54_code
def yJ0_length_8abf5 : MethodName := ⟨RJ0, "length", "()I"⟩
abbrev cJ0_charAt_5068e : ByteArray := prog_25_method_56_code
def yJ0_charAt_5068e : MethodName := ⟨RJ0, "charAt", "(I)C"⟩
abbrev cJ0_getBytes_840e7 : ByteArray := prog_25_method_147_code
def yJ0_getBytes_840e7 : MethodName := ⟨RJ0, "getBytes", "([BIB)V"⟩
abbrev cJ0_init_db425 : ByteArray := prog_25_method_150_code
def yJ0_init_db425 : MethodName := ⟨RJ0, "<init>", "(Ljava/lang/AbstractStringBuilder;Ljava/lang/Void;)V"⟩
abbrev cJ0_coder_7d493 : ByteArray := prog_25_method_152_code
def yJ0_coder_7d493 : MethodName := ⟨RJ0, "coder", "()B"⟩
abbrev cJ0_isLatin1_aae02 : ByteArray := prog_25_method_154_code
def yJ0_isLatin1_aae02 : MethodName := ⟨RJ0, "isLatin1", "()Z"⟩
abbrev cJ0_checkIndex_df160 : ByteArray := prog_25_method_155_code
def yJ0_checkIndex_df160 : MethodName := ⟨RJ0, "checkIndex", "(II)V"⟩
abbrev cJ0_checkBoundsOffCount_cabcc : ByteArray := prog_25_method_157_code
def yJ0_checkBoundsOffCount_cabcc : MethodName := ⟨RJ0, "checkBoundsOffCount", "(III)I"⟩
abbrev cJ0_checkBoundsBeginEnd_23922 : ByteArray := prog_25_method_158_code
def yJ0_checkBoundsBeginEnd_23922 : MethodName := ⟨RJ0, "checkBoundsBeginEnd", "(III)V"⟩
def RJ4 : String := "java/lang/StringBuilder"
def TJ4 : u_T := fun k => match k with
  | 0 => ("java/lang/AbstractStringBuilder", "value", "[B", false)
  | 1 => ("java/lang/AbstractStringBuilder", "coder", "B", false)
  | 2 => ("java/lang/AbstractStringBuilder", "maybeLatin1", "Z", false)
  | _ => ("java/lang/AbstractStringBuilder", "count", "I", false)
def tyJ4 : Nat → FieldType := fun k => match k with
  | 0 => .array .byte
  | 1 => .byte
  | 2 => .boolean
  | _ => .int
theorem nmJ4 : ∀ a, a < 4 → ∀ b, b < 4 → a ≠ b → (TJ4 a).2.1 ≠ (TJ4 b).2.1 := by decide +kernel
theorem tyJ4_ok : ∀ k, k < 4 → parseFieldDescriptor (TJ4 k).2.2.1 = some (tyJ4 k) := by decide +kernel
abbrev cJ4_init_a7421 : ByteArray := prog_26_method_3_code
def yJ4_init_a7421 : MethodName := ⟨RJ4, "<init>", "(Ljava/lang/String;)V"⟩
abbrev cJ4_append_15ec4 : ByteArray := prog_26_method_7_code
def yJ4_append_15ec4 : MethodName := ⟨RJ4, "append", "(Ljava/lang/String;)Ljava/lang/StringBuilder;"⟩
abbrev cJ4_append_cf468 : ByteArray := prog_26_method_14_code
def yJ4_append_cf468 : MethodName := ⟨RJ4, "append", "(C)Ljava/lang/StringBuilder;"⟩
abbrev cJ4_append_bf812 : ByteArray := prog_26_method_15_code
def yJ4_append_bf812 : MethodName := ⟨RJ4, "append", "(I)Ljava/lang/StringBuilder;"⟩
abbrev cJ4_toString_0e30d : ByteArray := prog_26_method_42_code
def yJ4_toString_0e30d : MethodName := ⟨RJ4, "toString", "()Ljava/lang/String;"⟩
abbrev cJ4_append_cf1ce : ByteArray := prog_26_method_80_code
def yJ4_append_cf1ce : MethodName := ⟨RJ4, "append", "(Ljava/lang/String;)Ljava/lang/AbstractStringBuilder;"⟩
abbrev cJ4_length_8abf5 : ByteArray := prog_26_method_93_code
def yJ4_length_8abf5 : MethodName := ⟨RJ4, "length", "()I"⟩
def RJ1 : String := "java/lang/StringLatin1"
def TJ1 : u_T := fun k => match k with
  | _ => ("", "", "", false)
def tyJ1 : Nat → FieldType := fun k => match k with
  | _ => .int
theorem nmJ1 : ∀ a, a < 0 → ∀ b, b < 0 → a ≠ b → (TJ1 a).2.1 ≠ (TJ1 b).2.1 := by decide +kernel
theorem tyJ1_ok : ∀ k, k < 0 → parseFieldDescriptor (TJ1 k).2.2.1 = some (tyJ1 k) := by decide +kernel
abbrev cJ1_charAt_3b067 : ByteArray := prog_27_method_2_code
def yJ1_charAt_3b067 : MethodName := ⟨RJ1, "charAt", "([BI)C"⟩
abbrev cJ1_canEncode_fc78d : ByteArray := prog_27_method_3_code
def yJ1_canEncode_fc78d : MethodName := ⟨RJ1, "canEncode", "(C)Z"⟩
abbrev cJ1_inflate_0e8fd : ByteArray := prog_27_method_50_code
def yJ1_inflate_0e8fd : MethodName := ⟨RJ1, "inflate", "([BI[BII)V"⟩
def RJ2 : String := "java/lang/StringUTF16"
def TJ2 : u_T := fun k => match k with
  | _ => ("", "", "", false)
def tyJ2 : Nat → FieldType := fun k => match k with
  | _ => .int
theorem nmJ2 : ∀ a, a < 0 → ∀ b, b < 0 → a ≠ b → (TJ2 a).2.1 ≠ (TJ2 b).2.1 := by decide +kernel
theorem tyJ2_ok : ∀ k, k < 0 → parseFieldDescriptor (TJ2 k).2.2.1 = some (tyJ2 k) := by decide +kernel
abbrev cJ2_newBytesFor_77867 : ByteArray := prog_28_method_2_code
def yJ2_newBytesFor_77867 : MethodName := ⟨RJ2, "newBytesFor", "(I)[B"⟩
abbrev cJ2_newBytesLength_0f7a4 : ByteArray := prog_28_method_3_code
def yJ2_newBytesLength_0f7a4 : MethodName := ⟨RJ2, "newBytesLength", "(I)I"⟩
abbrev cJ2_putChar_b72d1 : ByteArray := prog_28_method_4_code
def yJ2_putChar_b72d1 : MethodName := ⟨RJ2, "putChar", "([BII)V"⟩
abbrev cJ2_getChar_3b067 : ByteArray := prog_28_method_5_code
def yJ2_getChar_3b067 : MethodName := ⟨RJ2, "getChar", "([BI)C"⟩
abbrev cJ2_length_9d52b : ByteArray := prog_28_method_6_code
def yJ2_length_9d52b : MethodName := ⟨RJ2, "length", "([B)I"⟩
abbrev cJ2_coderFromArrayLen_85cad : ByteArray := prog_28_method_15_code
def yJ2_coderFromArrayLen_85cad : MethodName := ⟨RJ2, "coderFromArrayLen", "([BI)B"⟩
abbrev cJ2_compress_39247 : ByteArray := prog_28_method_17_code
def yJ2_compress_39247 : MethodName := ⟨RJ2, "compress", "([BII)[B"⟩
abbrev cJ2_compress_5af95 : ByteArray := prog_28_method_22_code
def yJ2_compress_5af95 : MethodName := ⟨RJ2, "compress", "([BI[BII)I"⟩
abbrev cJ2_putCharSB_b72d1 : ByteArray := prog_28_method_71_code
def yJ2_putCharSB_b72d1 : MethodName := ⟨RJ2, "putCharSB", "([BII)V"⟩
abbrev cJ2_getChars_46870 : ByteArray := prog_28_method_77_code
def yJ2_getChars_46870 : MethodName := ⟨RJ2, "getChars", "(III[B)I"⟩
abbrev cJ2_putCharsAt_cd4e5 : ByteArray := prog_28_method_81_code
def yJ2_putCharsAt_cd4e5 : MethodName := ⟨RJ2, "putCharsAt", "([BICCCC)I"⟩
abbrev cJ2_charAt_3b067 : ByteArray := prog_28_method_83_code
def yJ2_charAt_3b067 : MethodName := ⟨RJ2, "charAt", "([BI)C"⟩
abbrev cJ2_inflate_0e8fd : ByteArray := prog_28_method_86_code
def yJ2_inflate_0e8fd : MethodName := ⟨RJ2, "inflate", "([BI[BII)V"⟩
abbrev cJ2_getChars_ba4f3 : ByteArray := prog_28_method_89_code
def yJ2_getChars_ba4f3 : MethodName := ⟨RJ2, "getChars", "(II[B)I"⟩
abbrev cJ2_checkIndex_2214a : ByteArray := prog_28_method_91_code
def yJ2_checkIndex_2214a : MethodName := ⟨RJ2, "checkIndex", "(I[B)V"⟩
abbrev cJ2_checkBoundsBeginEnd_d044e : ByteArray := prog_28_method_93_code
def yJ2_checkBoundsBeginEnd_d044e : MethodName := ⟨RJ2, "checkBoundsBeginEnd", "(II[B)V"⟩
abbrev cJ2_checkBoundsOffCount_d044e : ByteArray := prog_28_method_94_code
def yJ2_checkBoundsOffCount_d044e : MethodName := ⟨RJ2, "checkBoundsOffCount", "(II[B)V"⟩
def RJ10 : String := "java/lang/System"
def TJ10 : u_T := fun k => match k with
  | _ => ("", "", "", false)
def tyJ10 : Nat → FieldType := fun k => match k with
  | _ => .int
theorem nmJ10 : ∀ a, a < 0 → ∀ b, b < 0 → a ≠ b → (TJ10 a).2.1 ≠ (TJ10 b).2.1 := by decide +kernel
theorem tyJ10_ok : ∀ k, k < 0 → parseFieldDescriptor (TJ10 k).2.2.1 = some (tyJ10 k) := by decide +kernel
def RJ7 : String := "java/util/Arrays"
def TJ7 : u_T := fun k => match k with
  | _ => ("", "", "", false)
def tyJ7 : Nat → FieldType := fun k => match k with
  | _ => .int
theorem nmJ7 : ∀ a, a < 0 → ∀ b, b < 0 → a ≠ b → (TJ7 a).2.1 ≠ (TJ7 b).2.1 := by decide +kernel
theorem tyJ7_ok : ∀ k, k < 0 → parseFieldDescriptor (TJ7 k).2.2.1 = some (tyJ7 k) := by decide +kernel
abbrev cJ7_copyOf_9075b : ByteArray := prog_31_method_121_code
def yJ7_copyOf_9075b : MethodName := ⟨RJ7, "copyOf", "([BI)[B"⟩
abbrev cJ7_checkLength_df160 : ByteArray := prog_31_method_131_code
def yJ7_checkLength_df160 : MethodName := ⟨RJ7, "checkLength", "(II)V"⟩
abbrev cJ7_copyOfRange_39247 : ByteArray := prog_31_method_132_code
def yJ7_copyOfRange_39247 : MethodName := ⟨RJ7, "copyOfRange", "([BII)[B"⟩
abbrev cJ7_copyOfRangeByte_39247 : ByteArray := prog_31_method_133_code
def yJ7_copyOfRangeByte_39247 : MethodName := ⟨RJ7, "copyOfRangeByte", "([BII)[B"⟩
def RJ8 : String := "jdk/internal/util/ArraysSupport"
def TJ8 : u_T := fun k => match k with
  | _ => ("", "", "", false)
def tyJ8 : Nat → FieldType := fun k => match k with
  | _ => .int
theorem nmJ8 : ∀ a, a < 0 → ∀ b, b < 0 → a ≠ b → (TJ8 a).2.1 ≠ (TJ8 b).2.1 := by decide +kernel
theorem tyJ8_ok : ∀ k, k < 0 → parseFieldDescriptor (TJ8 k).2.2.1 = some (tyJ8 k) := by decide +kernel
abbrev cJ8_newLength_cabcc : ByteArray := prog_32_method_27_code
def yJ8_newLength_cabcc : MethodName := ⟨RJ8, "newLength", "(III)I"⟩
abbrev cJ8_hugeLength_7cf53 : ByteArray := prog_32_method_28_code
def yJ8_hugeLength_7cf53 : MethodName := ⟨RJ8, "hugeLength", "(II)I"⟩
def RJ3 : String := "jdk/internal/util/Preconditions"
def TJ3 : u_T := fun k => match k with
  | _ => ("", "", "", false)
def tyJ3 : Nat → FieldType := fun k => match k with
  | _ => .int
theorem nmJ3 : ∀ a, a < 0 → ∀ b, b < 0 → a ≠ b → (TJ3 a).2.1 ≠ (TJ3 b).2.1 := by decide +kernel
theorem tyJ3_ok : ∀ k, k < 0 → parseFieldDescriptor (TJ3 k).2.2.1 = some (tyJ3 k) := by decide +kernel
abbrev cJ3_checkIndex_8e157 : ByteArray := prog_33_method_11_code
def yJ3_checkIndex_8e157 : MethodName := ⟨RJ3, "checkIndex", "(IILjava/util/function/BiFunction;)I"⟩
abbrev cJ3_checkFromToIndex_8c36e : ByteArray := prog_33_method_12_code
def yJ3_checkFromToIndex_8c36e : MethodName := ⟨RJ3, "checkFromToIndex", "(IIILjava/util/function/BiFunction;)I"⟩
abbrev cJ3_checkFromIndexSize_8c36e : ByteArray := prog_33_method_13_code
def yJ3_checkFromIndexSize_8c36e : MethodName := ⟨RJ3, "checkFromIndexSize", "(IIILjava/util/function/BiFunction;)I"⟩
def RL : String := "TrainDecoderLaw"
abbrev cL_most : ByteArray := method_2_code
def yL_most : MethodName := ⟨RL, "most", "(II)I"⟩
abbrev cL_cell : ByteArray := method_3_code
def yL_cell : MethodName := ⟨RL, "cell", "([II)I"⟩
abbrev cL_add : ByteArray := method_4_code
def yL_add : MethodName := ⟨RL, "add", "(LTrainDecoder;[II)V"⟩
abbrev cL_say : ByteArray := method_5_code
def yL_say : MethodName := ⟨RL, "say", "(LTrainDecoder;[ILjava/lang/String;)V"⟩
abbrev cL_end : ByteArray := method_6_code
def yL_end : MethodName := ⟨RL, "end", "(LTrainDecoder;[I)I"⟩
abbrev cL_all : ByteArray := method_7_code
def yL_all : MethodName := ⟨RL, "all", "(LTrainDecoder;)[I"⟩
abbrev cL_alike : ByteArray := method_8_code
def yL_alike : MethodName := ⟨RL, "alike", "([I[I)Z"⟩
abbrev cL_isRailway : ByteArray := method_9_code
def yL_isRailway : MethodName := ⟨RL, "isRailway", "(LTrainDecoder;)Z"⟩
abbrev cL_tick : ByteArray := method_10_code
def yL_tick : MethodName := ⟨RL, "tick", "(LTrainDecoder;)Z"⟩
abbrev cL_act : ByteArray := method_11_code
def yL_act : MethodName := ⟨RL, "act", "(LTrainDecoder;I)Z"⟩
abbrev cL_law : ByteArray := code
def yL_law : MethodName := ⟨RL, "law", "([I)Z"⟩
abbrev vwCl : List vw_C := [(RJ0, TJ0, 4), (RJ4, TJ4, 4), (RX3, TX3, 2), (RX4, TX4, 2), (RX6, TX6, 5), (RX7, TX7, 4), (RX8, TX8, 9), (RX9, TX9, 2), (RX10, TX10, 6), (RX11, TX11, 15), (RX12, TX12, 10)]
