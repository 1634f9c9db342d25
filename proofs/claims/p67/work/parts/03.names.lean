def RX0 : String := "ParcelRailway$History"
def TX0 : u_T := fun k => match k with
  | 0 => ("ParcelRailway$History", "states", "[LParcelRailway$State;", true)
  | 1 => ("ParcelRailway$History", "next", "I", false)
  | _ => ("ParcelRailway$History", "count", "I", false)
def tyX0 : Nat → FieldType := fun k => match k with
  | 0 => .array (.object "ParcelRailway$State")
  | 1 => .int
  | _ => .int
abbrev wsX00 : List Cond := u_ws RX0 TX0 3
theorem nmX0 : ∀ a, a < 3 → ∀ b, b < 3 → a ≠ b → (TX0 a).2.1 ≠ (TX0 b).2.1 := by decide +kernel
theorem tyX0_ok : ∀ k, k < 3 → parseFieldDescriptor (TX0 k).2.2.1 = some (tyX0 k) := by decide +kernel
abbrev cX0_init : ByteArray := prog_2_method_1_code
def yX0_init : MethodName := ⟨RX0, "<init>", "()V"⟩
abbrev cX0_remember : ByteArray := prog_2_method_2_code
def yX0_remember : MethodName := ⟨RX0, "remember", "(LParcelRailway$State;)V"⟩
def RX1 : String := "ParcelRailway$Output"
def TX1 : u_T := fun k => match k with
  | 0 => ("ParcelRailway$Output", "bytes", "[B", true)
  | _ => ("ParcelRailway$Output", "length", "I", false)
def tyX1 : Nat → FieldType := fun k => match k with
  | 0 => .array .byte
  | _ => .int
abbrev wsX10 : List Cond := u_ws RX1 TX1 2
theorem nmX1 : ∀ a, a < 2 → ∀ b, b < 2 → a ≠ b → (TX1 a).2.1 ≠ (TX1 b).2.1 := by decide +kernel
theorem tyX1_ok : ∀ k, k < 2 → parseFieldDescriptor (TX1 k).2.2.1 = some (tyX1 k) := by decide +kernel
abbrev cX1_init : ByteArray := prog_3_method_1_code
def yX1_init : MethodName := ⟨RX1, "<init>", "()V"⟩
def RX2 : String := "ParcelRailway$Parcel"
def TX2 : u_T := fun k => match k with
  | 0 => ("ParcelRailway$Parcel", "number", "I", true)
  | 1 => ("ParcelRailway$Parcel", "from", "I", false)
  | 2 => ("ParcelRailway$Parcel", "to", "I", false)
  | 3 => ("ParcelRailway$Parcel", "rank", "I", false)
  | 4 => ("ParcelRailway$Parcel", "station", "I", false)
  | 5 => ("ParcelRailway$Parcel", "train", "I", false)
  | 6 => ("ParcelRailway$Parcel", "deliveredAt", "I", false)
  | 7 => ("ParcelRailway$Parcel", "drop", "I", false)
  | 8 => ("ParcelRailway$Parcel", "timesTransferred", "I", false)
  | _ => ("ParcelRailway$Parcel", "heldUntil", "I", false)
def tyX2 : Nat → FieldType := fun k => match k with
  | 0 => .int
  | 1 => .int
  | 2 => .int
  | 3 => .int
  | 4 => .int
  | 5 => .int
  | 6 => .int
  | 7 => .int
  | 8 => .int
  | _ => .int
abbrev wsX20 : List Cond := u_ws RX2 TX2 10
theorem nmX2 : ∀ a, a < 10 → ∀ b, b < 10 → a ≠ b → (TX2 a).2.1 ≠ (TX2 b).2.1 := by decide +kernel
theorem tyX2_ok : ∀ k, k < 10 → parseFieldDescriptor (TX2 k).2.2.1 = some (tyX2 k) := by decide +kernel
abbrev cX2_init : ByteArray := prog_4_method_1_code
def yX2_init : MethodName := ⟨RX2, "<init>", "(I)V"⟩
abbrev cX2_copyFrom : ByteArray := prog_4_method_2_code
def yX2_copyFrom : MethodName := ⟨RX2, "copyFrom", "(LParcelRailway$Parcel;)V"⟩
abbrev cX2_isDelivered : ByteArray := prog_4_method_3_code
def yX2_isDelivered : MethodName := ⟨RX2, "isDelivered", "()Z"⟩
abbrev cX2_isHeldAt : ByteArray := prog_4_method_4_code
def yX2_isHeldAt : MethodName := ⟨RX2, "isHeldAt", "(I)Z"⟩
abbrev cX2_isReadyAt : ByteArray := prog_4_method_5_code
def yX2_isReadyAt : MethodName := ⟨RX2, "isReadyAt", "(II)Z"⟩
abbrev cX2_isConsideredBefore : ByteArray := prog_4_method_6_code
def yX2_isConsideredBefore : MethodName := ⟨RX2, "isConsideredBefore", "(LParcelRailway$Parcel;)Z"⟩
abbrev cX2_board : ByteArray := prog_4_method_7_code
def yX2_board : MethodName := ⟨RX2, "board", "(II)V"⟩
abbrev cX2_deliver : ByteArray := prog_4_method_8_code
def yX2_deliver : MethodName := ⟨RX2, "deliver", "(I)V"⟩
abbrev cX2_transferTo : ByteArray := prog_4_method_9_code
def yX2_transferTo : MethodName := ⟨RX2, "transferTo", "(II)V"⟩
abbrev cX2_returnToSender : ByteArray := prog_4_method_10_code
def yX2_returnToSender : MethodName := ⟨RX2, "returnToSender", "(I)V"⟩
def RX3 : String := "ParcelRailway$Parser"
def TX3 : u_T := fun k => match k with
  | 0 => ("ParcelRailway$Parser", "tokens", "LParcelRailway$Tokens;", true)
  | 1 => ("ParcelRailway$Parser", "result", "LParcelRailway$State;", true)
  | 2 => ("ParcelRailway$Parser", "errorCode", "I", false)
  | 3 => ("ParcelRailway$Parser", "errorPosition", "I", false)
  | 4 => ("ParcelRailway$Parser", "keyword", "I", false)
  | 5 => ("ParcelRailway$Parser", "name", "I", false)
  | 6 => ("ParcelRailway$Parser", "first", "I", false)
  | 7 => ("ParcelRailway$Parser", "second", "I", false)
  | 8 => ("ParcelRailway$Parser", "number", "I", false)
  | 9 => ("ParcelRailway$Parser", "route", "[I", true)
  | _ => ("ParcelRailway$Parser", "routeLength", "I", false)
def tyX3 : Nat → FieldType := fun k => match k with
  | 0 => .object "ParcelRailway$Tokens"
  | 1 => .object "ParcelRailway$State"
  | 2 => .int
  | 3 => .int
  | 4 => .int
  | 5 => .int
  | 6 => .int
  | 7 => .int
  | 8 => .int
  | 9 => .array .int
  | _ => .int
abbrev wsX30 : List Cond := u_ws RX3 TX3 11
theorem nmX3 : ∀ a, a < 11 → ∀ b, b < 11 → a ≠ b → (TX3 a).2.1 ≠ (TX3 b).2.1 := by decide +kernel
theorem tyX3_ok : ∀ k, k < 11 → parseFieldDescriptor (TX3 k).2.2.1 = some (tyX3 k) := by decide +kernel
abbrev cX3_init : ByteArray := prog_5_method_1_code
def yX3_init : MethodName := ⟨RX3, "<init>", "()V"⟩
abbrev cX3_parse : ByteArray := prog_5_method_2_code
def yX3_parse : MethodName := ⟨RX3, "parse", "()V"⟩
abbrev cX3_fail : ByteArray := prog_5_method_3_code
def yX3_fail : MethodName := ⟨RX3, "fail", "(I)V"⟩
abbrev cX3_readStatement : ByteArray := prog_5_method_4_code
def yX3_readStatement : MethodName := ⟨RX3, "readStatement", "()V"⟩
abbrev cX3_execute : ByteArray := prog_5_method_5_code
def yX3_execute : MethodName := ⟨RX3, "execute", "()I"⟩
abbrev cX3_takeKeyword : ByteArray := prog_5_method_6_code
def yX3_takeKeyword : MethodName := ⟨RX3, "takeKeyword", "()I"⟩
abbrev cX3_findKeyword : ByteArray := prog_5_method_7_code
def yX3_findKeyword : MethodName := ⟨RX3, "findKeyword", "()I"⟩
abbrev cX3_isFull : ByteArray := prog_5_method_8_code
def yX3_isFull : MethodName := ⟨RX3, "isFull", "(I)Z"⟩
abbrev cX3_takeNewName : ByteArray := prog_5_method_9_code
def yX3_takeNewName : MethodName := ⟨RX3, "takeNewName", "()I"⟩
abbrev cX3_takeNumber : ByteArray := prog_5_method_10_code
def yX3_takeNumber : MethodName := ⟨RX3, "takeNumber", "(II)I"⟩
abbrev cX3_takeStation : ByteArray := prog_5_method_11_code
def yX3_takeStation : MethodName := ⟨RX3, "takeStation", "()I"⟩
abbrev cX3_takeSecondStation : ByteArray := prog_5_method_12_code
def yX3_takeSecondStation : MethodName := ⟨RX3, "takeSecondStation", "()I"⟩
abbrev cX3_findNamedStation : ByteArray := prog_5_method_13_code
def yX3_findNamedStation : MethodName := ⟨RX3, "findNamedStation", "()I"⟩
abbrev cX3_takeRoute : ByteArray := prog_5_method_14_code
def yX3_takeRoute : MethodName := ⟨RX3, "takeRoute", "()V"⟩
def RX4 : String := "ParcelRailway$State"
def TX4 : u_T := fun k => match k with
  | 0 => ("ParcelRailway$State", "stations", "[LParcelRailway$Station;", true)
  | 1 => ("ParcelRailway$State", "tracks", "[LParcelRailway$Track;", true)
  | 2 => ("ParcelRailway$State", "trains", "[LParcelRailway$Train;", true)
  | 3 => ("ParcelRailway$State", "parcels", "[LParcelRailway$Parcel;", true)
  | 4 => ("ParcelRailway$State", "distances", "[I", true)
  | 5 => ("ParcelRailway$State", "stationCount", "I", false)
  | 6 => ("ParcelRailway$State", "trackCount", "I", false)
  | 7 => ("ParcelRailway$State", "trainCount", "I", false)
  | 8 => ("ParcelRailway$State", "parcelCount", "I", false)
  | 9 => ("ParcelRailway$State", "clock", "I", false)
  | 10 => ("ParcelRailway$State", "timesLoaded", "I", false)
  | _ => ("ParcelRailway$State", "timesUnloaded", "I", false)
def tyX4 : Nat → FieldType := fun k => match k with
  | 0 => .array (.object "ParcelRailway$Station")
  | 1 => .array (.object "ParcelRailway$Track")
  | 2 => .array (.object "ParcelRailway$Train")
  | 3 => .array (.object "ParcelRailway$Parcel")
  | 4 => .array .int
  | 5 => .int
  | 6 => .int
  | 7 => .int
  | 8 => .int
  | 9 => .int
  | 10 => .int
  | _ => .int
abbrev wsX40 : List Cond := u_ws RX4 TX4 12
theorem nmX4 : ∀ a, a < 12 → ∀ b, b < 12 → a ≠ b → (TX4 a).2.1 ≠ (TX4 b).2.1 := by decide +kernel
theorem tyX4_ok : ∀ k, k < 12 → parseFieldDescriptor (TX4 k).2.2.1 = some (tyX4 k) := by decide +kernel
abbrev cX4_init : ByteArray := prog_6_method_1_code
def yX4_init : MethodName := ⟨RX4, "<init>", "()V"⟩
abbrev cX4_copyFrom : ByteArray := prog_6_method_2_code
def yX4_copyFrom : MethodName := ⟨RX4, "copyFrom", "(LParcelRailway$State;)V"⟩
abbrev cX4_clear : ByteArray := prog_6_method_3_code
def yX4_clear : MethodName := ⟨RX4, "clear", "()V"⟩
abbrev cX4_makeStation : ByteArray := prog_6_method_4_code
def yX4_makeStation : MethodName := ⟨RX4, "makeStation", "(IZ)V"⟩
abbrev cX4_makeTrack : ByteArray := prog_6_method_5_code
def yX4_makeTrack : MethodName := ⟨RX4, "makeTrack", "(III)V"⟩
abbrev cX4_makeTrain : ByteArray := prog_6_method_6_code
def yX4_makeTrain : MethodName := ⟨RX4, "makeTrain", "(I[II)V"⟩
abbrev cX4_makeParcel : ByteArray := prog_6_method_7_code
def yX4_makeParcel : MethodName := ⟨RX4, "makeParcel", "(III)V"⟩
abbrev cX4_openTrack : ByteArray := prog_6_method_8_code
def yX4_openTrack : MethodName := ⟨RX4, "openTrack", "(IZ)V"⟩
abbrev cX4_setInspectionOf : ByteArray := prog_6_method_9_code
def yX4_setInspectionOf : MethodName := ⟨RX4, "setInspectionOf", "(II)V"⟩
abbrev cX4_findStation : ByteArray := prog_6_method_10_code
def yX4_findStation : MethodName := ⟨RX4, "findStation", "(I)I"⟩
abbrev cX4_findTrack : ByteArray := prog_6_method_12_code
def yX4_findTrack : MethodName := ⟨RX4, "findTrack", "(II)I"⟩
abbrev cX4_distanceBetween : ByteArray := prog_6_method_13_code
def yX4_distanceBetween : MethodName := ⟨RX4, "distanceBetween", "(II)I"⟩
abbrev cX4_measureDistances : ByteArray := prog_6_method_14_code
def yX4_measureDistances : MethodName := ⟨RX4, "measureDistances", "()V"⟩
abbrev cX4_shorten : ByteArray := prog_6_method_15_code
def yX4_shorten : MethodName := ⟨RX4, "shorten", "(III)V"⟩
abbrev cX4_countWaitingAt : ByteArray := prog_6_method_16_code
def yX4_countWaitingAt : MethodName := ⟨RX4, "countWaitingAt", "(I)I"⟩
abbrev cX4_countCarriedBy : ByteArray := prog_6_method_17_code
def yX4_countCarriedBy : MethodName := ⟨RX4, "countCarriedBy", "(I)I"⟩
abbrev cX4_countCarried : ByteArray := prog_6_method_18_code
def yX4_countCarried : MethodName := ⟨RX4, "countCarried", "()I"⟩
abbrev cX4_countDelivered : ByteArray := prog_6_method_19_code
def yX4_countDelivered : MethodName := ⟨RX4, "countDelivered", "()I"⟩
abbrev cX4_findDrop : ByteArray := prog_6_method_24_code
def yX4_findDrop : MethodName := ⟨RX4, "findDrop", "(LParcelRailway$Train;I)I"⟩
abbrev cX4_findNextToLoad : ByteArray := prog_6_method_25_code
def yX4_findNextToLoad : MethodName := ⟨RX4, "findNextToLoad", "(LParcelRailway$Train;)LParcelRailway$Parcel;"⟩
abbrev cX4_passMinutes : ByteArray := prog_6_method_27_code
def yX4_passMinutes : MethodName := ⟨RX4, "passMinutes", "(I)V"⟩
abbrev cX4_passMinute : ByteArray := prog_6_method_28_code
def yX4_passMinute : MethodName := ⟨RX4, "passMinute", "()V"⟩
abbrev cX4_loadTrain : ByteArray := prog_6_method_29_code
def yX4_loadTrain : MethodName := ⟨RX4, "loadTrain", "(LParcelRailway$Train;)V"⟩
abbrev cX4_depart : ByteArray := prog_6_method_30_code
def yX4_depart : MethodName := ⟨RX4, "depart", "(LParcelRailway$Train;)V"⟩
abbrev cX4_arrive : ByteArray := prog_6_method_31_code
def yX4_arrive : MethodName := ⟨RX4, "arrive", "(LParcelRailway$Train;)V"⟩
abbrev cX4_isDropOf : ByteArray := prog_6_method_32_code
def yX4_isDropOf : MethodName := ⟨RX4, "isDropOf", "(LParcelRailway$Train;I)Z"⟩
abbrev cX4_unload : ByteArray := prog_6_method_33_code
def yX4_unload : MethodName := ⟨RX4, "unload", "(LParcelRailway$Train;I)V"⟩
def RX5 : String := "ParcelRailway$Station"
def TX5 : u_T := fun k => match k with
  | 0 => ("ParcelRailway$Station", "name", "I", false)
  | 1 => ("ParcelRailway$Station", "isRequest", "Z", false)
  | 2 => ("ParcelRailway$Station", "inspection", "I", false)
  | _ => ("ParcelRailway$Station", "stoppedAt", "I", false)
def tyX5 : Nat → FieldType := fun k => match k with
  | 0 => .int
  | 1 => .boolean
  | 2 => .int
  | _ => .int
abbrev wsX50 : List Cond := u_ws RX5 TX5 4
theorem nmX5 : ∀ a, a < 4 → ∀ b, b < 4 → a ≠ b → (TX5 a).2.1 ≠ (TX5 b).2.1 := by decide +kernel
theorem tyX5_ok : ∀ k, k < 4 → parseFieldDescriptor (TX5 k).2.2.1 = some (tyX5 k) := by decide +kernel
abbrev cX5_init : ByteArray := prog_7_method_1_code
def yX5_init : MethodName := ⟨RX5, "<init>", "()V"⟩
abbrev cX5_copyFrom : ByteArray := prog_7_method_2_code
def yX5_copyFrom : MethodName := ⟨RX5, "copyFrom", "(LParcelRailway$Station;)V"⟩
def RX6 : String := "ParcelRailway$Tokens"
def TX6 : u_T := fun k => match k with
  | 0 => ("ParcelRailway$Tokens", "text", "[B", true)
  | 1 => ("ParcelRailway$Tokens", "length", "I", false)
  | 2 => ("ParcelRailway$Tokens", "kind", "I", false)
  | 3 => ("ParcelRailway$Tokens", "start", "I", false)
  | _ => ("ParcelRailway$Tokens", "end", "I", false)
def tyX6 : Nat → FieldType := fun k => match k with
  | 0 => .array .byte
  | 1 => .int
  | 2 => .int
  | 3 => .int
  | _ => .int
abbrev wsX60 : List Cond := u_ws RX6 TX6 5
theorem nmX6 : ∀ a, a < 5 → ∀ b, b < 5 → a ≠ b → (TX6 a).2.1 ≠ (TX6 b).2.1 := by decide +kernel
theorem tyX6_ok : ∀ k, k < 5 → parseFieldDescriptor (TX6 k).2.2.1 = some (tyX6 k) := by decide +kernel
abbrev cX6_init : ByteArray := prog_8_method_1_code
def yX6_init : MethodName := ⟨RX6, "<init>", "()V"⟩
abbrev cX6_appendByte : ByteArray := prog_8_method_2_code
def yX6_appendByte : MethodName := ⟨RX6, "appendByte", "(I)V"⟩
abbrev cX6_appendFourBytes : ByteArray := prog_8_method_3_code
def yX6_appendFourBytes : MethodName := ⟨RX6, "appendFourBytes", "(I)V"⟩
abbrev cX6_appendText : ByteArray := prog_8_method_4_code
def yX6_appendText : MethodName := ⟨RX6, "appendText", "(Ljava/lang/String;)V"⟩
abbrev cX6_begin : ByteArray := prog_8_method_5_code
def yX6_begin : MethodName := ⟨RX6, "begin", "()V"⟩
abbrev cX6_advance : ByteArray := prog_8_method_6_code
def yX6_advance : MethodName := ⟨RX6, "advance", "()V"⟩
abbrev cX6_isBlank : ByteArray := prog_8_method_7_code
def yX6_isBlank : MethodName := ⟨RX6, "isBlank", "(I)Z"⟩
abbrev cX6_byteAt : ByteArray := prog_8_method_8_code
def yX6_byteAt : MethodName := ⟨RX6, "byteAt", "(I)I"⟩
abbrev cX6_findRunEnd : ByteArray := prog_8_method_9_code
def yX6_findRunEnd : MethodName := ⟨RX6, "findRunEnd", "(II)I"⟩
abbrev cX6_isText : ByteArray := prog_8_method_10_code
def yX6_isText : MethodName := ⟨RX6, "isText", "(Ljava/lang/String;)Z"⟩
abbrev cX6_packName : ByteArray := prog_8_method_11_code
def yX6_packName : MethodName := ⟨RX6, "packName", "()I"⟩
abbrev cX6_readNumber : ByteArray := prog_8_method_12_code
def yX6_readNumber : MethodName := ⟨RX6, "readNumber", "()I"⟩
def RX7 : String := "ParcelRailway$Track"
def TX7 : u_T := fun k => match k with
  | 0 => ("ParcelRailway$Track", "from", "I", false)
  | 1 => ("ParcelRailway$Track", "to", "I", false)
  | 2 => ("ParcelRailway$Track", "minutes", "I", false)
  | _ => ("ParcelRailway$Track", "isOpen", "Z", false)
def tyX7 : Nat → FieldType := fun k => match k with
  | 0 => .int
  | 1 => .int
  | 2 => .int
  | _ => .boolean
abbrev wsX70 : List Cond := u_ws RX7 TX7 4
theorem nmX7 : ∀ a, a < 4 → ∀ b, b < 4 → a ≠ b → (TX7 a).2.1 ≠ (TX7 b).2.1 := by decide +kernel
theorem tyX7_ok : ∀ k, k < 4 → parseFieldDescriptor (TX7 k).2.2.1 = some (tyX7 k) := by decide +kernel
abbrev cX7_init : ByteArray := prog_9_method_1_code
def yX7_init : MethodName := ⟨RX7, "<init>", "()V"⟩
abbrev cX7_copyFrom : ByteArray := prog_9_method_2_code
def yX7_copyFrom : MethodName := ⟨RX7, "copyFrom", "(LParcelRailway$Track;)V"⟩
abbrev cX7_connects : ByteArray := prog_9_method_3_code
def yX7_connects : MethodName := ⟨RX7, "connects", "(II)Z"⟩
def RX8 : String := "ParcelRailway$Train"
def TX8 : u_T := fun k => match k with
  | 0 => ("ParcelRailway$Train", "number", "I", true)
  | 1 => ("ParcelRailway$Train", "room", "I", false)
  | 2 => ("ParcelRailway$Train", "stops", "[I", true)
  | 3 => ("ParcelRailway$Train", "stopCount", "I", false)
  | 4 => ("ParcelRailway$Train", "position", "I", false)
  | 5 => ("ParcelRailway$Train", "goesForward", "Z", false)
  | 6 => ("ParcelRailway$Train", "minutesLeft", "I", false)
  | 7 => ("ParcelRailway$Train", "minutesDelayed", "I", false)
  | 8 => ("ParcelRailway$Train", "timesStopped", "I", false)
  | _ => ("ParcelRailway$Train", "timesPassed", "I", false)
def tyX8 : Nat → FieldType := fun k => match k with
  | 0 => .int
  | 1 => .int
  | 2 => .array .int
  | 3 => .int
  | 4 => .int
  | 5 => .boolean
  | 6 => .int
  | 7 => .int
  | 8 => .int
  | _ => .int
abbrev wsX80 : List Cond := u_ws RX8 TX8 10
theorem nmX8 : ∀ a, a < 10 → ∀ b, b < 10 → a ≠ b → (TX8 a).2.1 ≠ (TX8 b).2.1 := by decide +kernel
theorem tyX8_ok : ∀ k, k < 10 → parseFieldDescriptor (TX8 k).2.2.1 = some (tyX8 k) := by decide +kernel
abbrev cX8_init : ByteArray := prog_10_method_1_code
def yX8_init : MethodName := ⟨RX8, "<init>", "(I)V"⟩
abbrev cX8_copyFrom : ByteArray := prog_10_method_2_code
def yX8_copyFrom : MethodName := ⟨RX8, "copyFrom", "(LParcelRailway$Train;)V"⟩
abbrev cX8_isStanding : ByteArray := prog_10_method_3_code
def yX8_isStanding : MethodName := ⟨RX8, "isStanding", "()Z"⟩
abbrev cX8_stationAt : ByteArray := prog_10_method_4_code
def yX8_stationAt : MethodName := ⟨RX8, "stationAt", "(I)I"⟩
abbrev cX8_stationAhead : ByteArray := prog_10_method_5_code
def yX8_stationAhead : MethodName := ⟨RX8, "stationAhead", "(I)I"⟩
abbrev cX8_standsAt : ByteArray := prog_10_method_6_code
def yX8_standsAt : MethodName := ⟨RX8, "standsAt", "()I"⟩
abbrev cX8_isAtEnd : ByteArray := prog_10_method_7_code
def yX8_isAtEnd : MethodName := ⟨RX8, "isAtEnd", "()Z"⟩
abbrev cX8_reachNextStop : ByteArray := prog_10_method_8_code
def yX8_reachNextStop : MethodName := ⟨RX8, "reachNextStop", "()V"⟩
def RX9 : String := "ParcelRailway"
def TX9 : u_T := fun k => match k with
  | 0 => ("ParcelRailway", "state", "LParcelRailway$State;", true)
  | 1 => ("ParcelRailway", "future", "LParcelRailway$State;", true)
  | 2 => ("ParcelRailway", "parser", "LParcelRailway$Parser;", true)
  | 3 => ("ParcelRailway", "history", "LParcelRailway$History;", true)
  | 4 => ("ParcelRailway", "output", "LParcelRailway$Output;", true)
  | 5 => ("ParcelRailway", "slots", "[LParcelRailway$State;", true)
  | _ => ("ParcelRailway", "slotFilled", "[Z", true)
def tyX9 : Nat → FieldType := fun k => match k with
  | 0 => .object "ParcelRailway$State"
  | 1 => .object "ParcelRailway$State"
  | 2 => .object "ParcelRailway$Parser"
  | 3 => .object "ParcelRailway$History"
  | 4 => .object "ParcelRailway$Output"
  | 5 => .array (.object "ParcelRailway$State")
  | _ => .array .boolean
abbrev wsX90 : List Cond := u_ws RX9 TX9 7
theorem nmX9 : ∀ a, a < 7 → ∀ b, b < 7 → a ≠ b → (TX9 a).2.1 ≠ (TX9 b).2.1 := by decide +kernel
theorem tyX9_ok : ∀ k, k < 7 → parseFieldDescriptor (TX9 k).2.2.1 = some (tyX9 k) := by decide +kernel
abbrev cX9_init : ByteArray := prog_1_method_1_code
def yX9_init : MethodName := ⟨RX9, "<init>", "()V"⟩
abbrev cX9_appendInput : ByteArray := prog_1_method_2_code
def yX9_appendInput : MethodName := ⟨RX9, "appendInput", "(IIIII)I"⟩
abbrev cX9_truncateInput : ByteArray := prog_1_method_3_code
def yX9_truncateInput : MethodName := ⟨RX9, "truncateInput", "(I)I"⟩
abbrev cX9_load : ByteArray := prog_1_method_4_code
def yX9_load : MethodName := ⟨RX9, "load", "()I"⟩
abbrev cX9_errorCode : ByteArray := prog_1_method_5_code
def yX9_errorCode : MethodName := ⟨RX9, "errorCode", "()I"⟩
abbrev cX9_clock : ByteArray := prog_1_method_7_code
def yX9_clock : MethodName := ⟨RX9, "clock", "()I"⟩
abbrev cX9_stationCount : ByteArray := prog_1_method_8_code
def yX9_stationCount : MethodName := ⟨RX9, "stationCount", "()I"⟩
abbrev cX9_trainCount : ByteArray := prog_1_method_10_code
def yX9_trainCount : MethodName := ⟨RX9, "trainCount", "()I"⟩
abbrev cX9_parcelCount : ByteArray := prog_1_method_11_code
def yX9_parcelCount : MethodName := ⟨RX9, "parcelCount", "()I"⟩
abbrev cX9_isRequestStop : ByteArray := prog_1_method_12_code
def yX9_isRequestStop : MethodName := ⟨RX9, "isRequestStop", "(I)Z"⟩
abbrev cX9_inspectionTime : ByteArray := prog_1_method_13_code
def yX9_inspectionTime : MethodName := ⟨RX9, "inspectionTime", "(I)I"⟩
abbrev cX9_travelTime : ByteArray := prog_1_method_16_code
def yX9_travelTime : MethodName := ⟨RX9, "travelTime", "(II)I"⟩
abbrev cX9_isTrackOpen : ByteArray := prog_1_method_17_code
def yX9_isTrackOpen : MethodName := ⟨RX9, "isTrackOpen", "(II)Z"⟩
abbrev cX9_distance : ByteArray := prog_1_method_18_code
def yX9_distance : MethodName := ⟨RX9, "distance", "(II)I"⟩
abbrev cX9_capacity : ByteArray := prog_1_method_19_code
def yX9_capacity : MethodName := ⟨RX9, "capacity", "(I)I"⟩
abbrev cX9_routeLength : ByteArray := prog_1_method_20_code
def yX9_routeLength : MethodName := ⟨RX9, "routeLength", "(I)I"⟩
abbrev cX9_routeStation : ByteArray := prog_1_method_21_code
def yX9_routeStation : MethodName := ⟨RX9, "routeStation", "(II)I"⟩
abbrev cX9_carriedCount : ByteArray := prog_1_method_22_code
def yX9_carriedCount : MethodName := ⟨RX9, "carriedCount", "(I)I"⟩
abbrev cX9_trainStation : ByteArray := prog_1_method_24_code
def yX9_trainStation : MethodName := ⟨RX9, "trainStation", "(I)I"⟩
abbrev cX9_nextStation : ByteArray := prog_1_method_25_code
def yX9_nextStation : MethodName := ⟨RX9, "nextStation", "(I)I"⟩
abbrev cX9_isForward : ByteArray := prog_1_method_26_code
def yX9_isForward : MethodName := ⟨RX9, "isForward", "(I)Z"⟩
abbrev cX9_minutesToNext : ByteArray := prog_1_method_27_code
def yX9_minutesToNext : MethodName := ⟨RX9, "minutesToNext", "(I)I"⟩
abbrev cX9_delay : ByteArray := prog_1_method_28_code
def yX9_delay : MethodName := ⟨RX9, "delay", "(I)I"⟩
abbrev cX9_stopsMade : ByteArray := prog_1_method_29_code
def yX9_stopsMade : MethodName := ⟨RX9, "stopsMade", "(I)I"⟩
abbrev cX9_stopsPassed : ByteArray := prog_1_method_30_code
def yX9_stopsPassed : MethodName := ⟨RX9, "stopsPassed", "(I)I"⟩
abbrev cX9_origin : ByteArray := prog_1_method_31_code
def yX9_origin : MethodName := ⟨RX9, "origin", "(I)I"⟩
abbrev cX9_destination : ByteArray := prog_1_method_32_code
def yX9_destination : MethodName := ⟨RX9, "destination", "(I)I"⟩
abbrev cX9_priority : ByteArray := prog_1_method_33_code
def yX9_priority : MethodName := ⟨RX9, "priority", "(I)I"⟩
abbrev cX9_parcelStation : ByteArray := prog_1_method_34_code
def yX9_parcelStation : MethodName := ⟨RX9, "parcelStation", "(I)I"⟩
abbrev cX9_parcelTrain : ByteArray := prog_1_method_35_code
def yX9_parcelTrain : MethodName := ⟨RX9, "parcelTrain", "(I)I"⟩
abbrev cX9_dropStation : ByteArray := prog_1_method_36_code
def yX9_dropStation : MethodName := ⟨RX9, "dropStation", "(I)I"⟩
abbrev cX9_transfers : ByteArray := prog_1_method_37_code
def yX9_transfers : MethodName := ⟨RX9, "transfers", "(I)I"⟩
abbrev cX9_isHeld : ByteArray := prog_1_method_38_code
def yX9_isHeld : MethodName := ⟨RX9, "isHeld", "(I)Z"⟩
abbrev cX9_deliveryClock : ByteArray := prog_1_method_39_code
def yX9_deliveryClock : MethodName := ⟨RX9, "deliveryClock", "(I)I"⟩
abbrev cX9_deliveredCount : ByteArray := prog_1_method_41_code
def yX9_deliveredCount : MethodName := ⟨RX9, "deliveredCount", "()I"⟩
abbrev cX9_parcelBalance : ByteArray := prog_1_method_42_code
def yX9_parcelBalance : MethodName := ⟨RX9, "parcelBalance", "()I"⟩
abbrev cX9_loadingBalance : ByteArray := prog_1_method_43_code
def yX9_loadingBalance : MethodName := ⟨RX9, "loadingBalance", "()I"⟩
abbrev cX9_pass : ByteArray := prog_1_method_53_code
def yX9_pass : MethodName := ⟨RX9, "pass", "(I)I"⟩
abbrev cX9_addParcel : ByteArray := prog_1_method_54_code
def yX9_addParcel : MethodName := ⟨RX9, "addParcel", "(III)I"⟩
abbrev cX9_setTrackOpen : ByteArray := prog_1_method_55_code
def yX9_setTrackOpen : MethodName := ⟨RX9, "setTrackOpen", "(IIZ)Z"⟩
abbrev cX9_setPriority : ByteArray := prog_1_method_56_code
def yX9_setPriority : MethodName := ⟨RX9, "setPriority", "(II)I"⟩
abbrev cX9_setInspection : ByteArray := prog_1_method_57_code
def yX9_setInspection : MethodName := ⟨RX9, "setInspection", "(II)I"⟩
abbrev cX9_withdraw : ByteArray := prog_1_method_58_code
def yX9_withdraw : MethodName := ⟨RX9, "withdraw", "(I)I"⟩
abbrev cX9_checkStation : ByteArray := prog_1_method_66_code
def yX9_checkStation : MethodName := ⟨RX9, "checkStation", "(I)V"⟩
abbrev cX9_checkTrain : ByteArray := prog_1_method_67_code
def yX9_checkTrain : MethodName := ⟨RX9, "checkTrain", "(I)V"⟩
abbrev cX9_checkParcel : ByteArray := prog_1_method_68_code
def yX9_checkParcel : MethodName := ⟨RX9, "checkParcel", "(I)V"⟩
abbrev cX9_checkRange : ByteArray := prog_1_method_70_code
def yX9_checkRange : MethodName := ⟨RX9, "checkRange", "(III)V"⟩
abbrev cX9_requireTrack : ByteArray := prog_1_method_71_code
def yX9_requireTrack : MethodName := ⟨RX9, "requireTrack", "(II)I"⟩
def RX10 : String := "ParcelRailwayLaw$Hand"
def TX10 : u_T := fun k => match k with
  | 0 => ("ParcelRailwayLaw$Hand", "stations", "I", true)
  | 1 => ("ParcelRailwayLaw$Hand", "trains", "I", true)
  | 2 => ("ParcelRailwayLaw$Hand", "time", "[[I", true)
  | 3 => ("ParcelRailwayLaw$Hand", "open", "[[Z", true)
  | 4 => ("ParcelRailwayLaw$Hand", "request", "[Z", true)
  | 5 => ("ParcelRailwayLaw$Hand", "inspect", "[I", true)
  | 6 => ("ParcelRailwayLaw$Hand", "route", "[[I", true)
  | 7 => ("ParcelRailwayLaw$Hand", "capacity", "[I", true)
  | 8 => ("ParcelRailwayLaw$Hand", "at", "[I", true)
  | 9 => ("ParcelRailwayLaw$Hand", "step", "[I", true)
  | 10 => ("ParcelRailwayLaw$Hand", "left", "[I", true)
  | 11 => ("ParcelRailwayLaw$Hand", "delay", "[I", true)
  | 12 => ("ParcelRailwayLaw$Hand", "stops", "[I", true)
  | 13 => ("ParcelRailwayLaw$Hand", "passed", "[I", true)
  | 14 => ("ParcelRailwayLaw$Hand", "parcel", "[[I", true)
  | 15 => ("ParcelRailwayLaw$Hand", "parcels", "I", false)
  | _ => ("ParcelRailwayLaw$Hand", "clock", "I", false)
def tyX10 : Nat → FieldType := fun k => match k with
  | 0 => .int
  | 1 => .int
  | 2 => .array (.array .int)
  | 3 => .array (.array .boolean)
  | 4 => .array .boolean
  | 5 => .array .int
  | 6 => .array (.array .int)
  | 7 => .array .int
  | 8 => .array .int
  | 9 => .array .int
  | 10 => .array .int
  | 11 => .array .int
  | 12 => .array .int
  | 13 => .array .int
  | 14 => .array (.array .int)
  | 15 => .int
  | _ => .int
abbrev wsX100 : List Cond := u_ws RX10 TX10 17
theorem nmX10 : ∀ a, a < 17 → ∀ b, b < 17 → a ≠ b → (TX10 a).2.1 ≠ (TX10 b).2.1 := by decide +kernel
theorem tyX10_ok : ∀ k, k < 17 → parseFieldDescriptor (TX10 k).2.2.1 = some (tyX10 k) := by decide +kernel
abbrev cX10_init : ByteArray := prog_12_method_1_code
def yX10_init : MethodName := ⟨RX10, "<init>", "(LParcelRailway;)V"⟩
abbrev cX10_add : ByteArray := prog_12_method_2_code
def yX10_add : MethodName := ⟨RX10, "add", "(III)V"⟩
abbrev cX10_follow : ByteArray := prog_12_method_3_code
def yX10_follow : MethodName := ⟨RX10, "follow", "(LParcelRailway;I)V"⟩
abbrev cX10_delivered : ByteArray := prog_12_method_4_code
def yX10_delivered : MethodName := ⟨RX10, "delivered", "()I"⟩
abbrev cX10_far : ByteArray := prog_12_method_5_code
def yX10_far : MethodName := ⟨RX10, "far", "(II)I"⟩
abbrev cX10_carried : ByteArray := prog_12_method_6_code
def yX10_carried : MethodName := ⟨RX10, "carried", "(I)I"⟩
abbrev cX10_drop : ByteArray := prog_12_method_7_code
def yX10_drop : MethodName := ⟨RX10, "drop", "(II)I"⟩
abbrev cX10_fits : ByteArray := prog_12_method_8_code
def yX10_fits : MethodName := ⟨RX10, "fits", "(II)Z"⟩
abbrev cX10_loads : ByteArray := prog_12_method_9_code
def yX10_loads : MethodName := ⟨RX10, "loads", "(I)V"⟩
abbrev cX10_departs : ByteArray := prog_12_method_10_code
def yX10_departs : MethodName := ⟨RX10, "departs", "(I)V"⟩
abbrev cX10_arrives : ByteArray := prog_12_method_11_code
def yX10_arrives : MethodName := ⟨RX10, "arrives", "(I)V"⟩
abbrev cX10_minute : ByteArray := prog_12_method_12_code
def yX10_minute : MethodName := ⟨RX10, "minute", "()V"⟩
abbrev cX10_agrees : ByteArray := prog_12_method_13_code
def yX10_agrees : MethodName := ⟨RX10, "agrees", "(LParcelRailway;)Z"⟩
def RX11 : String := "ParcelRailwayModel"
def TX11 : u_T := fun k => match k with
  | _ => ("", "", "", false)
def tyX11 : Nat → FieldType := fun k => match k with
  | _ => .int
abbrev wsX110 : List Cond := u_ws RX11 TX11 0
theorem nmX11 : ∀ a, a < 0 → ∀ b, b < 0 → a ≠ b → (TX11 a).2.1 ≠ (TX11 b).2.1 := by decide +kernel
theorem tyX11_ok : ∀ k, k < 0 → parseFieldDescriptor (TX11 k).2.2.1 = some (tyX11 k) := by decide +kernel
def RJx145de : String := "java/io/Serializable"
def TJx145de : u_T := fun k => match k with
  | _ => ("", "", "", false)
def tyJx145de : Nat → FieldType := fun k => match k with
  | _ => .int
theorem nmJx145de : ∀ a, a < 0 → ∀ b, b < 0 → a ≠ b → (TJx145de a).2.1 ≠ (TJx145de b).2.1 := by decide +kernel
theorem tyJx145de_ok : ∀ k, k < 0 → parseFieldDescriptor (TJx145de k).2.2.1 = some (tyJx145de k) := by decide +kernel
def RJ5 : String := "java/lang/AbstractStringBuilder"
def TJ5 : u_T := fun k => match k with
  | _ => ("", "", "", false)
def tyJ5 : Nat → FieldType := fun k => match k with
  | _ => .int
abbrev wsJ50 : List Cond := u_ws RJ5 TJ5 0
theorem nmJ5 : ∀ a, a < 0 → ∀ b, b < 0 → a ≠ b → (TJ5 a).2.1 ≠ (TJ5 b).2.1 := by decide +kernel
theorem tyJ5_ok : ∀ k, k < 0 → parseFieldDescriptor (TJ5 k).2.2.1 = some (tyJ5 k) := by decide +kernel
abbrev cJ5_init_d00df : ByteArray := prog_15_method_2_code
def yJ5_init_d00df : MethodName := ⟨RJ5, "<init>", "(I)V"⟩
abbrev cJ5_length_8abf5 : ByteArray := prog_15_method_6_code
def yJ5_length_8abf5 : MethodName := ⟨RJ5, "length", "()I"⟩
abbrev cJ5_ensureCapacityInternal_d00df : ByteArray := prog_15_method_9_code
def yJ5_ensureCapacityInternal_d00df : MethodName := ⟨RJ5, "ensureCapacityInternal", "(I)V"⟩
abbrev cJ5_newCapacity_0f7a4 : ByteArray := prog_15_method_10_code
def yJ5_newCapacity_0f7a4 : MethodName := ⟨RJ5, "newCapacity", "(I)I"⟩
abbrev cJ5_inflate_da8c8 : ByteArray := prog_15_method_11_code
def yJ5_inflate_da8c8 : MethodName := ⟨RJ5, "inflate", "()V"⟩
abbrev cJ5_append_cf1ce : ByteArray := prog_15_method_22_code
def yJ5_append_cf1ce : MethodName := ⟨RJ5, "append", "(Ljava/lang/String;)Ljava/lang/AbstractStringBuilder;"⟩
abbrev cJ5_appendNull_278bc : ByteArray := prog_15_method_26_code
def yJ5_appendNull_278bc : MethodName := ⟨RJ5, "appendNull", "()Ljava/lang/AbstractStringBuilder;"⟩
abbrev cJ5_append_3fe6f : ByteArray := prog_15_method_31_code
def yJ5_append_3fe6f : MethodName := ⟨RJ5, "append", "(C)Ljava/lang/AbstractStringBuilder;"⟩
abbrev cJ5_append_c97b9 : ByteArray := prog_15_method_32_code
def yJ5_append_c97b9 : MethodName := ⟨RJ5, "append", "(I)Ljava/lang/AbstractStringBuilder;"⟩
abbrev cJ5_getValue_6d5f1 : ByteArray := prog_15_method_64_code
def yJ5_getValue_6d5f1 : MethodName := ⟨RJ5, "getValue", "()[B"⟩
abbrev cJ5_isLatin1_aae02 : ByteArray := prog_15_method_68_code
def yJ5_isLatin1_aae02 : MethodName := ⟨RJ5, "isLatin1", "()Z"⟩
abbrev cJ5_inflateIfNeededFor_a7421 : ByteArray := prog_15_method_71_code
def yJ5_inflateIfNeededFor_a7421 : MethodName := ⟨RJ5, "inflateIfNeededFor", "(Ljava/lang/String;)V"⟩
abbrev cJ5_putStringAt_47b60 : ByteArray := prog_15_method_73_code
def yJ5_putStringAt_47b60 : MethodName := ⟨RJ5, "putStringAt", "(ILjava/lang/String;)V"⟩
def RJx2cfe8 : String := "java/lang/Appendable"
def TJx2cfe8 : u_T := fun k => match k with
  | _ => ("", "", "", false)
def tyJx2cfe8 : Nat → FieldType := fun k => match k with
  | _ => .int
theorem nmJx2cfe8 : ∀ a, a < 0 → ∀ b, b < 0 → a ≠ b → (TJx2cfe8 a).2.1 ≠ (TJx2cfe8 b).2.1 := by decide +kernel
theorem tyJx2cfe8_ok : ∀ k, k < 0 → parseFieldDescriptor (TJx2cfe8 k).2.2.1 = some (tyJx2cfe8 k) := by decide +kernel
def RJx9f9b0 : String := "java/lang/CharSequence"
def TJx9f9b0 : u_T := fun k => match k with
  | _ => ("", "", "", false)
def tyJx9f9b0 : Nat → FieldType := fun k => match k with
  | _ => .int
theorem nmJx9f9b0 : ∀ a, a < 0 → ∀ b, b < 0 → a ≠ b → (TJx9f9b0 a).2.1 ≠ (TJx9f9b0 b).2.1 := by decide +kernel
theorem tyJx9f9b0_ok : ∀ k, k < 0 → parseFieldDescriptor (TJx9f9b0 k).2.2.1 = some (tyJx9f9b0 k) := by decide +kernel
def RJx8e188 : String := "java/lang/Cloneable"
def TJx8e188 : u_T := fun k => match k with
  | _ => ("", "", "", false)
def tyJx8e188 : Nat → FieldType := fun k => match k with
  | _ => .int
theorem nmJx8e188 : ∀ a, a < 0 → ∀ b, b < 0 → a ≠ b → (TJx8e188 a).2.1 ≠ (TJx8e188 b).2.1 := by decide +kernel
theorem tyJx8e188_ok : ∀ k, k < 0 → parseFieldDescriptor (TJx8e188 k).2.2.1 = some (tyJx8e188 k) := by decide +kernel
def RJxb160c : String := "java/lang/Comparable"
def TJxb160c : u_T := fun k => match k with
  | _ => ("", "", "", false)
def tyJxb160c : Nat → FieldType := fun k => match k with
  | _ => .int
theorem nmJxb160c : ∀ a, a < 0 → ∀ b, b < 0 → a ≠ b → (TJxb160c a).2.1 ≠ (TJxb160c b).2.1 := by decide +kernel
theorem tyJxb160c_ok : ∀ k, k < 0 → parseFieldDescriptor (TJxb160c k).2.2.1 = some (tyJxb160c k) := by decide +kernel
def RJ6 : String := "java/lang/Integer"
def TJ6 : u_T := fun k => match k with
  | _ => ("", "", "", false)
def tyJ6 : Nat → FieldType := fun k => match k with
  | _ => .int
abbrev wsJ60 : List Cond := u_ws RJ6 TJ6 0
theorem nmJ6 : ∀ a, a < 0 → ∀ b, b < 0 → a ≠ b → (TJ6 a).2.1 ≠ (TJ6 b).2.1 := by decide +kernel
theorem tyJ6_ok : ∀ k, k < 0 → parseFieldDescriptor (TJ6 k).2.2.1 = some (tyJ6 k) := by decide +kernel
abbrev cJ6_getChars_ba4f3 : ByteArray := prog_24_method_12_code
def yJ6_getChars_ba4f3 : MethodName := ⟨RJ6, "getChars", "(II[B)I"⟩
abbrev cJ6_stringSize_0f7a4 : ByteArray := prog_24_method_13_code
def yJ6_stringSize_0f7a4 : MethodName := ⟨RJ6, "stringSize", "(I)I"⟩
def RJ9 : String := "java/lang/Math"
def TJ9 : u_T := fun k => match k with
  | _ => ("", "", "", false)
def tyJ9 : Nat → FieldType := fun k => match k with
  | _ => .int
abbrev wsJ90 : List Cond := u_ws RJ9 TJ9 0
theorem nmJ9 : ∀ a, a < 0 → ∀ b, b < 0 → a ≠ b → (TJ9 a).2.1 ≠ (TJ9 b).2.1 := by decide +kernel
theorem tyJ9_ok : ∀ k, k < 0 → parseFieldDescriptor (TJ9 k).2.2.1 = some (tyJ9 k) := by decide +kernel
abbrev cJ9_max_7cf53 : ByteArray := prog_25_method_65_code
def yJ9_max_7cf53 : MethodName := ⟨RJ9, "max", "(II)I"⟩
abbrev cJ9_min_7cf53 : ByteArray := prog_25_method_69_code
def yJ9_min_7cf53 : MethodName := ⟨RJ9, "min", "(II)I"⟩
def RJxd2413 : String := "java/lang/Number"
def TJxd2413 : u_T := fun k => match k with
  | _ => ("", "", "", false)
def tyJxd2413 : Nat → FieldType := fun k => match k with
  | _ => .int
theorem nmJxd2413 : ∀ a, a < 0 → ∀ b, b < 0 → a ≠ b → (TJxd2413 a).2.1 ≠ (TJxd2413 b).2.1 := by decide +kernel
theorem tyJxd2413_ok : ∀ k, k < 0 → parseFieldDescriptor (TJxd2413 k).2.2.1 = some (tyJxd2413 k) := by decide +kernel
def RJ0 : String := "java/lang/String"
def TJ0 : u_T := fun k => match k with
  | 0 => ("java/lang/String", "value", "[B", true)
  | 1 => ("java/lang/String", "coder", "B", true)
  | 2 => ("java/lang/String", "hash", "I", false)
  | _ => ("java/lang/String", "hashIsZero", "Z", false)
def tyJ0 : Nat → FieldType := fun k => match k with
  | 0 => .array .byte
  | 1 => .byte
  | 2 => .int
  | _ => .boolean
abbrev wsJ00 : List Cond := u_ws RJ0 TJ0 4
theorem nmJ0 : ∀ a, a < 4 → ∀ b, b < 4 → a ≠ b → (TJ0 a).2.1 ≠ (TJ0 b).2.1 := by decide +kernel
theorem tyJ0_ok : ∀ k, k < 4 → parseFieldDescriptor (TJ0 k).2.2.1 = some (tyJ0 k) := by decide +kernel
abbrev cJ0_init_81219 : ByteArray := prog_28_method_53_code
def yJ0_init_81219 : MethodName := ⟨RJ0, "<init>", "(Ljava/lang/StringBuilder;)V"⟩
abbrev cJ0_length_8abf5 : ByteArray := prog_28_method_54_code
def yJ0_length_8abf5 : MethodName := ⟨RJ0, "length", "()I"⟩
abbrev cJ0_charAt_5068e : ByteArray := prog_28_method_56_code
def yJ0_charAt_5068e : MethodName := ⟨RJ0, "charAt", "(I)C"⟩
abbrev cJ0_getBytes_840e7 : ByteArray := prog_28_method_147_code
def yJ0_getBytes_840e7 : MethodName := ⟨RJ0, "getBytes", "([BIB)V"⟩
abbrev cJ0_init_db425 : ByteArray := prog_28_method_150_code
def yJ0_init_db425 : MethodName := ⟨RJ0, "<init>", "(Ljava/lang/AbstractStringBuilder;Ljava/lang/Void;)V"⟩
abbrev cJ0_coder_7d493 : ByteArray := prog_28_method_152_code
def yJ0_coder_7d493 : MethodName := ⟨RJ0, "coder", "()B"⟩
abbrev cJ0_isLatin1_aae02 : ByteArray := prog_28_method_154_code
def yJ0_isLatin1_aae02 : MethodName := ⟨RJ0, "isLatin1", "()Z"⟩
abbrev cJ0_checkIndex_df160 : ByteArray := prog_28_method_155_code
def yJ0_checkIndex_df160 : MethodName := ⟨RJ0, "checkIndex", "(II)V"⟩
abbrev cJ0_checkBoundsOffCount_cabcc : ByteArray := prog_28_method_157_code
def yJ0_checkBoundsOffCount_cabcc : MethodName := ⟨RJ0, "checkBoundsOffCount", "(III)I"⟩
abbrev cJ0_checkBoundsBeginEnd_23922 : ByteArray := prog_28_method_158_code
def yJ0_checkBoundsBeginEnd_23922 : MethodName := ⟨RJ0, "checkBoundsBeginEnd", "(III)V"⟩
def RJ4 : String := "java/lang/StringBuilder"
def TJ4 : u_T := fun k => match k with
  | 0 => ("java/lang/AbstractStringBuilder", "value", "[B", false)
  | 1 => ("java/lang/AbstractStringBuilder", "coder", "B", false)
  | 2 => ("java/lang/AbstractStringBuilder", "maybeLatin1", "Z", false)
  | _ => ("java/lang/AbstractStringBuilder", "count", "I", false)
def tyJ4 : Nat → FieldType := fun k => match k with
  | 0 => .array .byte
  | 1 => .byte
  | 2 => .boolean
  | _ => .int
abbrev wsJ40 : List Cond := u_ws RJ4 TJ4 4
theorem nmJ4 : ∀ a, a < 4 → ∀ b, b < 4 → a ≠ b → (TJ4 a).2.1 ≠ (TJ4 b).2.1 := by decide +kernel
theorem tyJ4_ok : ∀ k, k < 4 → parseFieldDescriptor (TJ4 k).2.2.1 = some (tyJ4 k) := by decide +kernel
abbrev cJ4_init_da8c8 : ByteArray := prog_29_method_1_code
def yJ4_init_da8c8 : MethodName := ⟨RJ4, "<init>", "()V"⟩
abbrev cJ4_append_15ec4 : ByteArray := prog_29_method_7_code
def yJ4_append_15ec4 : MethodName := ⟨RJ4, "append", "(Ljava/lang/String;)Ljava/lang/StringBuilder;"⟩
abbrev cJ4_append_cf468 : ByteArray := prog_29_method_14_code
def yJ4_append_cf468 : MethodName := ⟨RJ4, "append", "(C)Ljava/lang/StringBuilder;"⟩
abbrev cJ4_append_bf812 : ByteArray := prog_29_method_15_code
def yJ4_append_bf812 : MethodName := ⟨RJ4, "append", "(I)Ljava/lang/StringBuilder;"⟩
abbrev cJ4_toString_0e30d : ByteArray := prog_29_method_42_code
def yJ4_toString_0e30d : MethodName := ⟨RJ4, "toString", "()Ljava/lang/String;"⟩
abbrev cJ4_length_8abf5 : ByteArray := prog_29_method_93_code
def yJ4_length_8abf5 : MethodName := ⟨RJ4, "length", "()I"⟩
def RJ1 : String := "java/lang/StringLatin1"
def TJ1 : u_T := fun k => match k with
  | _ => ("", "", "", false)
def tyJ1 : Nat → FieldType := fun k => match k with
  | _ => .int
abbrev wsJ10 : List Cond := u_ws RJ1 TJ1 0
theorem nmJ1 : ∀ a, a < 0 → ∀ b, b < 0 → a ≠ b → (TJ1 a).2.1 ≠ (TJ1 b).2.1 := by decide +kernel
theorem tyJ1_ok : ∀ k, k < 0 → parseFieldDescriptor (TJ1 k).2.2.1 = some (tyJ1 k) := by decide +kernel
abbrev cJ1_charAt_3b067 : ByteArray := prog_30_method_2_code
def yJ1_charAt_3b067 : MethodName := ⟨RJ1, "charAt", "([BI)C"⟩
abbrev cJ1_canEncode_fc78d : ByteArray := prog_30_method_3_code
def yJ1_canEncode_fc78d : MethodName := ⟨RJ1, "canEncode", "(C)Z"⟩
abbrev cJ1_inflate_0e8fd : ByteArray := prog_30_method_50_code
def yJ1_inflate_0e8fd : MethodName := ⟨RJ1, "inflate", "([BI[BII)V"⟩
def RJ2 : String := "java/lang/StringUTF16"
def TJ2 : u_T := fun k => match k with
  | _ => ("", "", "", false)
def tyJ2 : Nat → FieldType := fun k => match k with
  | _ => .int
abbrev wsJ20 : List Cond := u_ws RJ2 TJ2 0
theorem nmJ2 : ∀ a, a < 0 → ∀ b, b < 0 → a ≠ b → (TJ2 a).2.1 ≠ (TJ2 b).2.1 := by decide +kernel
theorem tyJ2_ok : ∀ k, k < 0 → parseFieldDescriptor (TJ2 k).2.2.1 = some (tyJ2 k) := by decide +kernel
abbrev cJ2_newBytesFor_77867 : ByteArray := prog_31_method_2_code
def yJ2_newBytesFor_77867 : MethodName := ⟨RJ2, "newBytesFor", "(I)[B"⟩
abbrev cJ2_newBytesLength_0f7a4 : ByteArray := prog_31_method_3_code
def yJ2_newBytesLength_0f7a4 : MethodName := ⟨RJ2, "newBytesLength", "(I)I"⟩
abbrev cJ2_putChar_b72d1 : ByteArray := prog_31_method_4_code
def yJ2_putChar_b72d1 : MethodName := ⟨RJ2, "putChar", "([BII)V"⟩
abbrev cJ2_getChar_3b067 : ByteArray := prog_31_method_5_code
def yJ2_getChar_3b067 : MethodName := ⟨RJ2, "getChar", "([BI)C"⟩
abbrev cJ2_length_9d52b : ByteArray := prog_31_method_6_code
def yJ2_length_9d52b : MethodName := ⟨RJ2, "length", "([B)I"⟩
abbrev cJ2_coderFromArrayLen_85cad : ByteArray := prog_31_method_15_code
def yJ2_coderFromArrayLen_85cad : MethodName := ⟨RJ2, "coderFromArrayLen", "([BI)B"⟩
abbrev cJ2_compress_39247 : ByteArray := prog_31_method_17_code
def yJ2_compress_39247 : MethodName := ⟨RJ2, "compress", "([BII)[B"⟩
abbrev cJ2_compress_5af95 : ByteArray := prog_31_method_22_code
def yJ2_compress_5af95 : MethodName := ⟨RJ2, "compress", "([BI[BII)I"⟩
abbrev cJ2_putCharSB_b72d1 : ByteArray := prog_31_method_71_code
def yJ2_putCharSB_b72d1 : MethodName := ⟨RJ2, "putCharSB", "([BII)V"⟩
abbrev cJ2_getChars_46870 : ByteArray := prog_31_method_77_code
def yJ2_getChars_46870 : MethodName := ⟨RJ2, "getChars", "(III[B)I"⟩
abbrev cJ2_putCharsAt_cd4e5 : ByteArray := prog_31_method_81_code
def yJ2_putCharsAt_cd4e5 : MethodName := ⟨RJ2, "putCharsAt", "([BICCCC)I"⟩
abbrev cJ2_charAt_3b067 : ByteArray := prog_31_method_83_code
def yJ2_charAt_3b067 : MethodName := ⟨RJ2, "charAt", "([BI)C"⟩
abbrev cJ2_inflate_0e8fd : ByteArray := prog_31_method_86_code
def yJ2_inflate_0e8fd : MethodName := ⟨RJ2, "inflate", "([BI[BII)V"⟩
abbrev cJ2_getChars_ba4f3 : ByteArray := prog_31_method_89_code
def yJ2_getChars_ba4f3 : MethodName := ⟨RJ2, "getChars", "(II[B)I"⟩
abbrev cJ2_checkIndex_2214a : ByteArray := prog_31_method_91_code
def yJ2_checkIndex_2214a : MethodName := ⟨RJ2, "checkIndex", "(I[B)V"⟩
abbrev cJ2_checkBoundsBeginEnd_d044e : ByteArray := prog_31_method_93_code
def yJ2_checkBoundsBeginEnd_d044e : MethodName := ⟨RJ2, "checkBoundsBeginEnd", "(II[B)V"⟩
abbrev cJ2_checkBoundsOffCount_d044e : ByteArray := prog_31_method_94_code
def yJ2_checkBoundsOffCount_d044e : MethodName := ⟨RJ2, "checkBoundsOffCount", "(II[B)V"⟩
def RJ10 : String := "java/lang/System"
def TJ10 : u_T := fun k => match k with
  | _ => ("", "", "", false)
def tyJ10 : Nat → FieldType := fun k => match k with
  | _ => .int
abbrev wsJ100 : List Cond := u_ws RJ10 TJ10 0
theorem nmJ10 : ∀ a, a < 0 → ∀ b, b < 0 → a ≠ b → (TJ10 a).2.1 ≠ (TJ10 b).2.1 := by decide +kernel
theorem tyJ10_ok : ∀ k, k < 0 → parseFieldDescriptor (TJ10 k).2.2.1 = some (tyJ10 k) := by decide +kernel
def RJxfd54e : String := "java/lang/constant/Constable"
def TJxfd54e : u_T := fun k => match k with
  | _ => ("", "", "", false)
def tyJxfd54e : Nat → FieldType := fun k => match k with
  | _ => .int
theorem nmJxfd54e : ∀ a, a < 0 → ∀ b, b < 0 → a ≠ b → (TJxfd54e a).2.1 ≠ (TJxfd54e b).2.1 := by decide +kernel
theorem tyJxfd54e_ok : ∀ k, k < 0 → parseFieldDescriptor (TJxfd54e k).2.2.1 = some (tyJxfd54e k) := by decide +kernel
def RJx3cf43 : String := "java/lang/constant/ConstantDesc"
def TJx3cf43 : u_T := fun k => match k with
  | _ => ("", "", "", false)
def tyJx3cf43 : Nat → FieldType := fun k => match k with
  | _ => .int
theorem nmJx3cf43 : ∀ a, a < 0 → ∀ b, b < 0 → a ≠ b → (TJx3cf43 a).2.1 ≠ (TJx3cf43 b).2.1 := by decide +kernel
theorem tyJx3cf43_ok : ∀ k, k < 0 → parseFieldDescriptor (TJx3cf43 k).2.2.1 = some (tyJx3cf43 k) := by decide +kernel
def RJ7 : String := "java/util/Arrays"
def TJ7 : u_T := fun k => match k with
  | _ => ("", "", "", false)
def tyJ7 : Nat → FieldType := fun k => match k with
  | _ => .int
abbrev wsJ70 : List Cond := u_ws RJ7 TJ7 0
theorem nmJ7 : ∀ a, a < 0 → ∀ b, b < 0 → a ≠ b → (TJ7 a).2.1 ≠ (TJ7 b).2.1 := by decide +kernel
theorem tyJ7_ok : ∀ k, k < 0 → parseFieldDescriptor (TJ7 k).2.2.1 = some (tyJ7 k) := by decide +kernel
abbrev cJ7_copyOf_9075b : ByteArray := prog_36_method_121_code
def yJ7_copyOf_9075b : MethodName := ⟨RJ7, "copyOf", "([BI)[B"⟩
abbrev cJ7_checkLength_df160 : ByteArray := prog_36_method_131_code
def yJ7_checkLength_df160 : MethodName := ⟨RJ7, "checkLength", "(II)V"⟩
abbrev cJ7_copyOfRange_39247 : ByteArray := prog_36_method_132_code
def yJ7_copyOfRange_39247 : MethodName := ⟨RJ7, "copyOfRange", "([BII)[B"⟩
abbrev cJ7_copyOfRangeByte_39247 : ByteArray := prog_36_method_133_code
def yJ7_copyOfRangeByte_39247 : MethodName := ⟨RJ7, "copyOfRangeByte", "([BII)[B"⟩
def RJ8 : String := "jdk/internal/util/ArraysSupport"
def TJ8 : u_T := fun k => match k with
  | _ => ("", "", "", false)
def tyJ8 : Nat → FieldType := fun k => match k with
  | _ => .int
abbrev wsJ80 : List Cond := u_ws RJ8 TJ8 0
theorem nmJ8 : ∀ a, a < 0 → ∀ b, b < 0 → a ≠ b → (TJ8 a).2.1 ≠ (TJ8 b).2.1 := by decide +kernel
theorem tyJ8_ok : ∀ k, k < 0 → parseFieldDescriptor (TJ8 k).2.2.1 = some (tyJ8 k) := by decide +kernel
abbrev cJ8_newLength_cabcc : ByteArray := prog_38_method_27_code
def yJ8_newLength_cabcc : MethodName := ⟨RJ8, "newLength", "(III)I"⟩
abbrev cJ8_hugeLength_7cf53 : ByteArray := prog_38_method_28_code
def yJ8_hugeLength_7cf53 : MethodName := ⟨RJ8, "hugeLength", "(II)I"⟩
def RJ3 : String := "jdk/internal/util/Preconditions"
def TJ3 : u_T := fun k => match k with
  | _ => ("", "", "", false)
def tyJ3 : Nat → FieldType := fun k => match k with
  | _ => .int
abbrev wsJ30 : List Cond := u_ws RJ3 TJ3 0
theorem nmJ3 : ∀ a, a < 0 → ∀ b, b < 0 → a ≠ b → (TJ3 a).2.1 ≠ (TJ3 b).2.1 := by decide +kernel
theorem tyJ3_ok : ∀ k, k < 0 → parseFieldDescriptor (TJ3 k).2.2.1 = some (tyJ3 k) := by decide +kernel
abbrev cJ3_checkIndex_8e157 : ByteArray := prog_39_method_11_code
def yJ3_checkIndex_8e157 : MethodName := ⟨RJ3, "checkIndex", "(IILjava/util/function/BiFunction;)I"⟩
abbrev cJ3_checkFromToIndex_8c36e : ByteArray := prog_39_method_12_code
def yJ3_checkFromToIndex_8c36e : MethodName := ⟨RJ3, "checkFromToIndex", "(IIILjava/util/function/BiFunction;)I"⟩
abbrev cJ3_checkFromIndexSize_8c36e : ByteArray := prog_39_method_13_code
def yJ3_checkFromIndexSize_8c36e : MethodName := ⟨RJ3, "checkFromIndexSize", "(IIILjava/util/function/BiFunction;)I"⟩
def RL : String := "ParcelRailwayLaw"
abbrev cL_cell : ByteArray := method_2_code
def yL_cell : MethodName := ⟨RL, "cell", "([II)I"⟩
abbrev cL_says : ByteArray := method_3_code
def yL_says : MethodName := ⟨RL, "says", "(LParcelRailway;Ljava/lang/String;)V"⟩
abbrev cL_loaded : ByteArray := method_4_code
def yL_loaded : MethodName := ⟨RL, "loaded", "(LParcelRailway;)I"⟩
abbrev cL_text : ByteArray := method_5_code
def yL_text : MethodName := ⟨RL, "text", "([I)Ljava/lang/String;"⟩
abbrev cL_acts : ByteArray := method_6_code
def yL_acts : MethodName := ⟨RL, "acts", "(LParcelRailway;I)I"⟩
abbrev cL_law : ByteArray := code
def yL_law : MethodName := ⟨RL, "law", "([I)Z"⟩
abbrev vwCl : List vw_C := [(RX0, TX0, 3), (RX1, TX1, 2), (RX2, TX2, 10), (RX3, TX3, 11), (RX4, TX4, 12), (RX5, TX5, 4), (RX6, TX6, 5), (RX7, TX7, 4), (RX8, TX8, 10), (RX9, TX9, 7), (RX10, TX10, 17), (RJ0, TJ0, 4), (RJ4, TJ4, 4)]
