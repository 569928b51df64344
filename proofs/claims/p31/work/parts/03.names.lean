/-! ===== BEGIN printed: names, fields, word lists, decode rows ===== -/
def RX0 : String := "BusBlocks$Deficits"
def TX0 : u_T := fun k => match k with
  | 0 => ("BusBlocks$Deficits", "table", "LBusBlocks$Timetable;", true)
  | 1 => ("BusBlocks$Deficits", "events", "[I", true)
  | 2 => ("BusBlocks$Deficits", "missing", "[I", true)
  | 3 => ("BusBlocks$Deficits", "mostMissing", "[I", true)
  | 4 => ("BusBlocks$Deficits", "size", "I", false)
  | _ => ("BusBlocks$Deficits", "buses", "I", false)
def tyX0 : Nat → FieldType := fun k => match k with
  | 0 => .object "BusBlocks$Timetable"
  | 1 => .array .int
  | 2 => .array .int
  | 3 => .array .int
  | 4 => .int
  | _ => .int
abbrev wsX00 : List Cond := u_ws RX0 TX0 6
theorem nmX0 : ∀ a, a < 6 → ∀ b, b < 6 → a ≠ b → (TX0 a).2.1 ≠ (TX0 b).2.1 := by decide +kernel
theorem tyX0_ok : ∀ k, k < 6 → parseFieldDescriptor (TX0 k).2.2.1 = some (tyX0 k) := by decide +kernel
abbrev cX0_init : ByteArray := prog_2_method_1_code
def yX0_init : MethodName := ⟨RX0, "<init>", "(LBusBlocks$Timetable;)V"⟩
abbrev cX0_gather : ByteArray := prog_2_method_2_code
def yX0_gather : MethodName := ⟨RX0, "gather", "(I)V"⟩
abbrev cX0_insert : ByteArray := prog_2_method_3_code
def yX0_insert : MethodName := ⟨RX0, "insert", "(I)V"⟩
abbrev cX0_leavingEvent : ByteArray := prog_2_method_4_code
def yX0_leavingEvent : MethodName := ⟨RX0, "leavingEvent", "(III)I"⟩
abbrev cX0_readyEvent : ByteArray := prog_2_method_5_code
def yX0_readyEvent : MethodName := ⟨RX0, "readyEvent", "(III)I"⟩
abbrev cX0_keyOf : ByteArray := prog_2_method_6_code
def yX0_keyOf : MethodName := ⟨RX0, "keyOf", "(II)I"⟩
abbrev cX0_fewest : ByteArray := prog_2_method_7_code
def yX0_fewest : MethodName := ⟨RX0, "fewest", "()I"⟩
abbrev cX0_fewestWith : ByteArray := prog_2_method_8_code
def yX0_fewestWith : MethodName := ⟨RX0, "fewestWith", "(IIIII)I"⟩
abbrev cX0_deficitOf : ByteArray := prog_2_method_9_code
def yX0_deficitOf : MethodName := ⟨RX0, "deficitOf", "(I)I"⟩
abbrev cX0_restart : ByteArray := prog_2_method_10_code
def yX0_restart : MethodName := ⟨RX0, "restart", "()V"⟩
abbrev cX0_meetUpTo : ByteArray := prog_2_method_11_code
def yX0_meetUpTo : MethodName := ⟨RX0, "meetUpTo", "(II)I"⟩
abbrev cX0_meet : ByteArray := prog_2_method_12_code
def yX0_meet : MethodName := ⟨RX0, "meet", "(I)V"⟩
def RX1 : String := "BusBlocks$Duties"
def TX1 : u_T := fun k => match k with
  | 0 => ("BusBlocks$Duties", "table", "LBusBlocks$Timetable;", true)
  | _ => ("BusBlocks$Duties", "fewest", "[I", true)
def tyX1 : Nat → FieldType := fun k => match k with
  | 0 => .object "BusBlocks$Timetable"
  | _ => .array .int
abbrev wsX10 : List Cond := u_ws RX1 TX1 2
theorem nmX1 : ∀ a, a < 2 → ∀ b, b < 2 → a ≠ b → (TX1 a).2.1 ≠ (TX1 b).2.1 := by decide +kernel
theorem tyX1_ok : ∀ k, k < 2 → parseFieldDescriptor (TX1 k).2.2.1 = some (tyX1 k) := by decide +kernel
abbrev cX1_init : ByteArray := prog_3_method_1_code
def yX1_init : MethodName := ⟨RX1, "<init>", "(LBusBlocks$Timetable;)V"⟩
abbrev cX1_mayEnd : ByteArray := prog_3_method_2_code
def yX1_mayEnd : MethodName := ⟨RX1, "mayEnd", "(II)Z"⟩
abbrev cX1_latestEnd : ByteArray := prog_3_method_3_code
def yX1_latestEnd : MethodName := ⟨RX1, "latestEnd", "(I)I"⟩
abbrev cX1_lastOfDuty : ByteArray := prog_3_method_4_code
def yX1_lastOfDuty : MethodName := ⟨RX1, "lastOfDuty", "(I)I"⟩
abbrev cX1_fewestForward : ByteArray := prog_3_method_5_code
def yX1_fewestForward : MethodName := ⟨RX1, "fewestForward", "(I)I"⟩
abbrev cX1_firstOfDuty : ByteArray := prog_3_method_6_code
def yX1_firstOfDuty : MethodName := ⟨RX1, "firstOfDuty", "(II)I"⟩
abbrev cX1_fewestBackward : ByteArray := prog_3_method_7_code
def yX1_fewestBackward : MethodName := ⟨RX1, "fewestBackward", "(I)I"⟩
abbrev cX1_fewestToEnd : ByteArray := prog_3_method_8_code
def yX1_fewestToEnd : MethodName := ⟨RX1, "fewestToEnd", "(I)I"⟩
abbrev cX1_fewestOfAll : ByteArray := prog_3_method_9_code
def yX1_fewestOfAll : MethodName := ⟨RX1, "fewestOfAll", "()I"⟩
def RX2 : String := "BusBlocks$Shelf"
def TX2 : u_T := fun k => match k with
  | _ => ("BusBlocks$Shelf", "places", "[LBusBlocks$Timetable;", true)
def tyX2 : Nat → FieldType := fun k => match k with
  | _ => .array (.object "BusBlocks$Timetable")
abbrev wsX20 : List Cond := u_ws RX2 TX2 1
theorem nmX2 : ∀ a, a < 1 → ∀ b, b < 1 → a ≠ b → (TX2 a).2.1 ≠ (TX2 b).2.1 := by decide +kernel
theorem tyX2_ok : ∀ k, k < 1 → parseFieldDescriptor (TX2 k).2.2.1 = some (tyX2 k) := by decide +kernel
abbrev cX2_init : ByteArray := prog_4_method_1_code
def yX2_init : MethodName := ⟨RX2, "<init>", "(I)V"⟩
abbrev cX2_store : ByteArray := prog_4_method_2_code
def yX2_store : MethodName := ⟨RX2, "store", "(ILBusBlocks$Timetable;)V"⟩
abbrev cX2_fetch : ByteArray := prog_4_method_3_code
def yX2_fetch : MethodName := ⟨RX2, "fetch", "(ILBusBlocks$Timetable;)V"⟩
def RX3 : String := "BusBlocks$Text"
def TX3 : u_T := fun k => match k with
  | 0 => ("BusBlocks$Text", "signs", "[I", true)
  | 1 => ("BusBlocks$Text", "parts", "[I", true)
  | 2 => ("BusBlocks$Text", "length", "I", false)
  | _ => ("BusBlocks$Text", "place", "I", false)
def tyX3 : Nat → FieldType := fun k => match k with
  | 0 => .array .int
  | 1 => .array .int
  | 2 => .int
  | _ => .int
abbrev wsX30 : List Cond := u_ws RX3 TX3 4
theorem nmX3 : ∀ a, a < 4 → ∀ b, b < 4 → a ≠ b → (TX3 a).2.1 ≠ (TX3 b).2.1 := by decide +kernel
theorem tyX3_ok : ∀ k, k < 4 → parseFieldDescriptor (TX3 k).2.2.1 = some (tyX3 k) := by decide +kernel
abbrev cX3_init : ByteArray := prog_5_method_1_code
def yX3_init : MethodName := ⟨RX3, "<init>", "()V"⟩
abbrev cX3_addSign : ByteArray := prog_5_method_2_code
def yX3_addSign : MethodName := ⟨RX3, "addSign", "(I)I"⟩
abbrev cX3_readToError : ByteArray := prog_5_method_3_code
def yX3_readToError : MethodName := ⟨RX3, "readToError", "()I"⟩
abbrev cX3_isWhole : ByteArray := prog_5_method_4_code
def yX3_isWhole : MethodName := ⟨RX3, "isWhole", "()Z"⟩
abbrev cX3_journeys : ByteArray := prog_5_method_5_code
def yX3_journeys : MethodName := ⟨RX3, "journeys", "()I"⟩
abbrev cX3_addTo : ByteArray := prog_5_method_6_code
def yX3_addTo : MethodName := ⟨RX3, "addTo", "(LBusBlocks$Timetable;)V"⟩
abbrev cX3_addJourney : ByteArray := prog_5_method_7_code
def yX3_addJourney : MethodName := ⟨RX3, "addJourney", "(LBusBlocks$Timetable;)V"⟩
abbrev cX3_beginJourney : ByteArray := prog_5_method_8_code
def yX3_beginJourney : MethodName := ⟨RX3, "beginJourney", "()V"⟩
abbrev cX3_takes : ByteArray := prog_5_method_9_code
def yX3_takes : MethodName := ⟨RX3, "takes", "(I)Z"⟩
abbrev cX3_takesName : ByteArray := prog_5_method_10_code
def yX3_takesName : MethodName := ⟨RX3, "takesName", "(I)Z"⟩
abbrev cX3_takesDigit : ByteArray := prog_5_method_11_code
def yX3_takesDigit : MethodName := ⟨RX3, "takesDigit", "(I)Z"⟩
abbrev cX3_takesEnd : ByteArray := prog_5_method_12_code
def yX3_takesEnd : MethodName := ⟨RX3, "takesEnd", "(I)Z"⟩
def RX4 : String := "BusBlocks$Timetable"
def TX4 : u_T := fun k => match k with
  | 0 => ("BusBlocks$Timetable", "routes", "[I", true)
  | 1 => ("BusBlocks$Timetable", "origins", "[I", true)
  | 2 => ("BusBlocks$Timetable", "goals", "[I", true)
  | 3 => ("BusBlocks$Timetable", "departures", "[I", true)
  | 4 => ("BusBlocks$Timetable", "lengths", "[I", true)
  | 5 => ("BusBlocks$Timetable", "befores", "[I", true)
  | 6 => ("BusBlocks$Timetable", "behinds", "[I", true)
  | 7 => ("BusBlocks$Timetable", "losts", "[I", true)
  | 8 => ("BusBlocks$Timetable", "layovers", "[I", true)
  | 9 => ("BusBlocks$Timetable", "reliefs", "[I", true)
  | 10 => ("BusBlocks$Timetable", "settings", "[I", true)
  | 11 => ("BusBlocks$Timetable", "trips", "I", false)
  | 12 => ("BusBlocks$Timetable", "usedSpares", "I", false)
  | 13 => ("BusBlocks$Timetable", "failures", "I", false)
  | _ => ("BusBlocks$Timetable", "refused", "I", false)
def tyX4 : Nat → FieldType := fun k => match k with
  | 0 => .array .int
  | 1 => .array .int
  | 2 => .array .int
  | 3 => .array .int
  | 4 => .array .int
  | 5 => .array .int
  | 6 => .array .int
  | 7 => .array .int
  | 8 => .array .int
  | 9 => .array .int
  | 10 => .array .int
  | 11 => .int
  | 12 => .int
  | 13 => .int
  | _ => .int
abbrev wsX40 : List Cond := u_ws RX4 TX4 15
theorem nmX4 : ∀ a, a < 15 → ∀ b, b < 15 → a ≠ b → (TX4 a).2.1 ≠ (TX4 b).2.1 := by decide +kernel
theorem tyX4_ok : ∀ k, k < 15 → parseFieldDescriptor (TX4 k).2.2.1 = some (tyX4 k) := by decide +kernel
abbrev cX4_init : ByteArray := prog_6_method_1_code
def yX4_init : MethodName := ⟨RX4, "<init>", "()V"⟩
abbrev cX4_copyFrom : ByteArray := prog_6_method_2_code
def yX4_copyFrom : MethodName := ⟨RX4, "copyFrom", "(LBusBlocks$Timetable;)V"⟩
abbrev cX4_addTrip : ByteArray := prog_6_method_3_code
def yX4_addTrip : MethodName := ⟨RX4, "addTrip", "(IIIII)I"⟩
abbrev cX4_isRun : ByteArray := prog_6_method_4_code
def yX4_isRun : MethodName := ⟨RX4, "isRun", "(I)Z"⟩
abbrev cX4_arrivalOf : ByteArray := prog_6_method_5_code
def yX4_arrivalOf : MethodName := ⟨RX4, "arrivalOf", "(I)I"⟩
abbrev cX4_readyOf : ByteArray := prog_6_method_6_code
def yX4_readyOf : MethodName := ⟨RX4, "readyOf", "(I)I"⟩
abbrev cX4_runTrips : ByteArray := prog_6_method_7_code
def yX4_runTrips : MethodName := ⟨RX4, "runTrips", "()I"⟩
abbrev cX4_runTripsAt : ByteArray := prog_6_method_8_code
def yX4_runTripsAt : MethodName := ⟨RX4, "runTripsAt", "([II)I"⟩
abbrev cX4_mostUnderWay : ByteArray := prog_6_method_9_code
def yX4_mostUnderWay : MethodName := ⟨RX4, "mostUnderWay", "()I"⟩
abbrev cX4_underWayAt : ByteArray := prog_6_method_10_code
def yX4_underWayAt : MethodName := ⟨RX4, "underWayAt", "(I)I"⟩
abbrev cX4_reasonAgainst : ByteArray := prog_6_method_11_code
def yX4_reasonAgainst : MethodName := ⟨RX4, "reasonAgainst", "(II)I"⟩
abbrev cX4_link : ByteArray := prog_6_method_12_code
def yX4_link : MethodName := ⟨RX4, "link", "(II)V"⟩
abbrev cX4_cutBehind : ByteArray := prog_6_method_13_code
def yX4_cutBehind : MethodName := ⟨RX4, "cutBehind", "(I)V"⟩
abbrev cX4_cutAhead : ByteArray := prog_6_method_14_code
def yX4_cutAhead : MethodName := ⟨RX4, "cutAhead", "(I)V"⟩
abbrev cX4_blockEverything : ByteArray := prog_6_method_15_code
def yX4_blockEverything : MethodName := ⟨RX4, "blockEverything", "()V"⟩
abbrev cX4_runTripBehind : ByteArray := prog_6_method_16_code
def yX4_runTripBehind : MethodName := ⟨RX4, "runTripBehind", "(I)I"⟩
abbrev cX4_rankOf : ByteArray := prog_6_method_17_code
def yX4_rankOf : MethodName := ⟨RX4, "rankOf", "(I)I"⟩
abbrev cX4_longestWaiting : ByteArray := prog_6_method_18_code
def yX4_longestWaiting : MethodName := ⟨RX4, "longestWaiting", "(I)I"⟩
abbrev cX4_isHead : ByteArray := prog_6_method_19_code
def yX4_isHead : MethodName := ⟨RX4, "isHead", "(I)Z"⟩
abbrev cX4_headsBelow : ByteArray := prog_6_method_20_code
def yX4_headsBelow : MethodName := ⟨RX4, "headsBelow", "(I)I"⟩
abbrev cX4_blocks : ByteArray := prog_6_method_21_code
def yX4_blocks : MethodName := ⟨RX4, "blocks", "()I"⟩
abbrev cX4_headOf : ByteArray := prog_6_method_22_code
def yX4_headOf : MethodName := ⟨RX4, "headOf", "(I)I"⟩
abbrev cX4_blockWith : ByteArray := prog_6_method_23_code
def yX4_blockWith : MethodName := ⟨RX4, "blockWith", "(I)I"⟩
abbrev cX4_endFrom : ByteArray := prog_6_method_24_code
def yX4_endFrom : MethodName := ⟨RX4, "endFrom", "(I)I"⟩
abbrev cX4_tripsFrom : ByteArray := prog_6_method_25_code
def yX4_tripsFrom : MethodName := ⟨RX4, "tripsFrom", "(I)I"⟩
abbrev cX4_spanFrom : ByteArray := prog_6_method_26_code
def yX4_spanFrom : MethodName := ⟨RX4, "spanFrom", "(I)I"⟩
abbrev cX4_drivenFrom : ByteArray := prog_6_method_27_code
def yX4_drivenFrom : MethodName := ⟨RX4, "drivenFrom", "(I)I"⟩
abbrev cX4_routeChangesFrom : ByteArray := prog_6_method_28_code
def yX4_routeChangesFrom : MethodName := ⟨RX4, "routeChangesFrom", "(I)I"⟩
abbrev cX4_sparesLeft : ByteArray := prog_6_method_29_code
def yX4_sparesLeft : MethodName := ⟨RX4, "sparesLeft", "()I"⟩
abbrev cX4_lossesFrom : ByteArray := prog_6_method_30_code
def yX4_lossesFrom : MethodName := ⟨RX4, "lossesFrom", "(I)I"⟩
abbrev cX4_loseBus : ByteArray := prog_6_method_31_code
def yX4_loseBus : MethodName := ⟨RX4, "loseBus", "(I)I"⟩
def RX5 : String := "BusBlocks"
def TX5 : u_T := fun k => match k with
  | 0 => ("BusBlocks", "now", "LBusBlocks$Timetable;", true)
  | 1 => ("BusBlocks", "trial", "LBusBlocks$Timetable;", true)
  | 2 => ("BusBlocks", "deficits", "LBusBlocks$Deficits;", true)
  | 3 => ("BusBlocks", "duties", "LBusBlocks$Duties;", true)
  | 4 => ("BusBlocks", "buffer", "LBusBlocks$Text;", true)
  | 5 => ("BusBlocks", "saved", "LBusBlocks$Shelf;", true)
  | 6 => ("BusBlocks", "slots", "LBusBlocks$Shelf;", true)
  | 7 => ("BusBlocks", "kept", "[I", true)
  | 8 => ("BusBlocks", "oldest", "I", false)
  | _ => ("BusBlocks", "savedStates", "I", false)
def tyX5 : Nat → FieldType := fun k => match k with
  | 0 => .object "BusBlocks$Timetable"
  | 1 => .object "BusBlocks$Timetable"
  | 2 => .object "BusBlocks$Deficits"
  | 3 => .object "BusBlocks$Duties"
  | 4 => .object "BusBlocks$Text"
  | 5 => .object "BusBlocks$Shelf"
  | 6 => .object "BusBlocks$Shelf"
  | 7 => .array .int
  | 8 => .int
  | _ => .int
abbrev wsX50 : List Cond := u_ws RX5 TX5 10
theorem nmX5 : ∀ a, a < 10 → ∀ b, b < 10 → a ≠ b → (TX5 a).2.1 ≠ (TX5 b).2.1 := by decide +kernel
theorem tyX5_ok : ∀ k, k < 10 → parseFieldDescriptor (TX5 k).2.2.1 = some (tyX5 k) := by decide +kernel
abbrev cX5_init : ByteArray := prog_1_method_1_code
def yX5_init : MethodName := ⟨RX5, "<init>", "()V"⟩
abbrev cX5_layover : ByteArray := prog_1_method_2_code
def yX5_layover : MethodName := ⟨RX5, "layover", "(II)I"⟩
abbrev cX5_relief : ByteArray := prog_1_method_3_code
def yX5_relief : MethodName := ⟨RX5, "relief", "(I)I"⟩
abbrev cX5_trip : ByteArray := prog_1_method_4_code
def yX5_trip : MethodName := ⟨RX5, "trip", "(IIIII)I"⟩
abbrev cX5_shift : ByteArray := prog_1_method_5_code
def yX5_shift : MethodName := ⟨RX5, "shift", "(II)I"⟩
abbrev cX5_set : ByteArray := prog_1_method_6_code
def yX5_set : MethodName := ⟨RX5, "set", "(II)I"⟩
abbrev cX5_follow : ByteArray := prog_1_method_7_code
def yX5_follow : MethodName := ⟨RX5, "follow", "(II)I"⟩
abbrev cX5_part : ByteArray := prog_1_method_8_code
def yX5_part : MethodName := ⟨RX5, "part", "(I)I"⟩
abbrev cX5_blockAll : ByteArray := prog_1_method_9_code
def yX5_blockAll : MethodName := ⟨RX5, "blockAll", "()I"⟩
abbrev cX5_fail : ByteArray := prog_1_method_10_code
def yX5_fail : MethodName := ⟨RX5, "fail", "(I)I"⟩
abbrev cX5_append : ByteArray := prog_1_method_11_code
def yX5_append : MethodName := ⟨RX5, "append", "(I)I"⟩
abbrev cX5_clearBuffer : ByteArray := prog_1_method_12_code
def yX5_clearBuffer : MethodName := ⟨RX5, "clearBuffer", "()I"⟩
abbrev cX5_firstError : ByteArray := prog_1_method_13_code
def yX5_firstError : MethodName := ⟨RX5, "firstError", "()I"⟩
abbrev cX5_load : ByteArray := prog_1_method_14_code
def yX5_load : MethodName := ⟨RX5, "load", "()I"⟩
abbrev cX5_keep : ByteArray := prog_1_method_15_code
def yX5_keep : MethodName := ⟨RX5, "keep", "(I)I"⟩
abbrev cX5_goBack : ByteArray := prog_1_method_16_code
def yX5_goBack : MethodName := ⟨RX5, "goBack", "(I)I"⟩
abbrev cX5_undo : ByteArray := prog_1_method_17_code
def yX5_undo : MethodName := ⟨RX5, "undo", "()I"⟩
abbrev cX5_terminalOf : ByteArray := prog_1_method_18_code
def yX5_terminalOf : MethodName := ⟨RX5, "terminalOf", "(II)I"⟩
abbrev cX5_tripOf : ByteArray := prog_1_method_19_code
def yX5_tripOf : MethodName := ⟨RX5, "tripOf", "(II)I"⟩
abbrev cX5_blockOf : ByteArray := prog_1_method_20_code
def yX5_blockOf : MethodName := ⟨RX5, "blockOf", "(II)I"⟩
abbrev cX5_duty : ByteArray := prog_1_method_21_code
def yX5_duty : MethodName := ⟨RX5, "duty", "(III)I"⟩
abbrev cX5_count : ByteArray := prog_1_method_22_code
def yX5_count : MethodName := ⟨RX5, "count", "(I)I"⟩
abbrev cX5_setting : ByteArray := prog_1_method_23_code
def yX5_setting : MethodName := ⟨RX5, "setting", "(I)I"⟩
abbrev cX5_whyNot : ByteArray := prog_1_method_24_code
def yX5_whyNot : MethodName := ⟨RX5, "whyNot", "(II)I"⟩
abbrev cX5_ifTrip : ByteArray := prog_1_method_25_code
def yX5_ifTrip : MethodName := ⟨RX5, "ifTrip", "(IIIII)I"⟩
abbrev cX5_bestTime : ByteArray := prog_1_method_26_code
def yX5_bestTime : MethodName := ⟨RX5, "bestTime", "(II)I"⟩
abbrev cX5_ifFailed : ByteArray := prog_1_method_27_code
def yX5_ifFailed : MethodName := ⟨RX5, "ifFailed", "(I)I"⟩
abbrev cX5_drivenShare : ByteArray := prog_1_method_28_code
def yX5_drivenShare : MethodName := ⟨RX5, "drivenShare", "()D"⟩
abbrev cX5_save : ByteArray := prog_1_method_34_code
def yX5_save : MethodName := ⟨RX5, "save", "()V"⟩
abbrev cX5_checkTerminal : ByteArray := prog_1_method_35_code
def yX5_checkTerminal : MethodName := ⟨RX5, "checkTerminal", "(I)V"⟩
abbrev cX5_checkSetting : ByteArray := prog_1_method_36_code
def yX5_checkSetting : MethodName := ⟨RX5, "checkSetting", "(I)V"⟩
abbrev cX5_checkTrip : ByteArray := prog_1_method_37_code
def yX5_checkTrip : MethodName := ⟨RX5, "checkTrip", "(I)V"⟩
abbrev cX5_checkHead : ByteArray := prog_1_method_38_code
def yX5_checkHead : MethodName := ⟨RX5, "checkHead", "(I)V"⟩
abbrev cX5_checkRun : ByteArray := prog_1_method_39_code
def yX5_checkRun : MethodName := ⟨RX5, "checkRun", "(I)V"⟩
abbrev cX5_checkRange : ByteArray := prog_1_method_40_code
def yX5_checkRange : MethodName := ⟨RX5, "checkRange", "(III)V"⟩
abbrev cX5_checkJourney : ByteArray := prog_1_method_41_code
def yX5_checkJourney : MethodName := ⟨RX5, "checkJourney", "(IIIII)V"⟩
abbrev cX5_at : ByteArray := prog_1_method_42_code
def yX5_at : MethodName := ⟨RX5, "at", "([II)I"⟩
abbrev cX5_put : ByteArray := prog_1_method_43_code
def yX5_put : MethodName := ⟨RX5, "put", "([III)V"⟩
abbrev cX5_copy : ByteArray := prog_1_method_44_code
def yX5_copy : MethodName := ⟨RX5, "copy", "([I[I)V"⟩
def RX6 : String := "BusBlocksModel"
def TX6 : u_T := fun k => match k with
  | _ => ("", "", "", false)
def tyX6 : Nat → FieldType := fun k => match k with
  | _ => .int
abbrev wsX60 : List Cond := u_ws RX6 TX6 0
theorem nmX6 : ∀ a, a < 0 → ∀ b, b < 0 → a ≠ b → (TX6 a).2.1 ≠ (TX6 b).2.1 := by decide +kernel
theorem tyX6_ok : ∀ k, k < 0 → parseFieldDescriptor (TX6 k).2.2.1 = some (tyX6 k) := by decide +kernel
def RJx145de : String := "java/io/Serializable"
def TJx145de : u_T := fun k => match k with
  | _ => ("", "", "", false)
def tyJx145de : Nat → FieldType := fun k => match k with
  | _ => .int
abbrev wsJx145de0 : List Cond := u_ws RJx145de TJx145de 0
theorem nmJx145de : ∀ a, a < 0 → ∀ b, b < 0 → a ≠ b → (TJx145de a).2.1 ≠ (TJx145de b).2.1 := by decide +kernel
theorem tyJx145de_ok : ∀ k, k < 0 → parseFieldDescriptor (TJx145de k).2.2.1 = some (tyJx145de k) := by decide +kernel
def RJx8e188 : String := "java/lang/Cloneable"
def TJx8e188 : u_T := fun k => match k with
  | _ => ("", "", "", false)
def tyJx8e188 : Nat → FieldType := fun k => match k with
  | _ => .int
abbrev wsJx8e1880 : List Cond := u_ws RJx8e188 TJx8e188 0
theorem nmJx8e188 : ∀ a, a < 0 → ∀ b, b < 0 → a ≠ b → (TJx8e188 a).2.1 ≠ (TJx8e188 b).2.1 := by decide +kernel
theorem tyJx8e188_ok : ∀ k, k < 0 → parseFieldDescriptor (TJx8e188 k).2.2.1 = some (tyJx8e188 k) := by decide +kernel
def RJ9 : String := "java/lang/Math"
def TJ9 : u_T := fun k => match k with
  | _ => ("", "", "", false)
def tyJ9 : Nat → FieldType := fun k => match k with
  | _ => .int
abbrev wsJ90 : List Cond := u_ws RJ9 TJ9 0
theorem nmJ9 : ∀ a, a < 0 → ∀ b, b < 0 → a ≠ b → (TJ9 a).2.1 ≠ (TJ9 b).2.1 := by decide +kernel
theorem tyJ9_ok : ∀ k, k < 0 → parseFieldDescriptor (TJ9 k).2.2.1 = some (tyJ9 k) := by decide +kernel
abbrev cJ9_max_7cf53 : ByteArray := prog_14_method_65_code
def yJ9_max_7cf53 : MethodName := ⟨RJ9, "max", "(II)I"⟩
abbrev cJ9_min_7cf53 : ByteArray := prog_14_method_69_code
def yJ9_min_7cf53 : MethodName := ⟨RJ9, "min", "(II)I"⟩
def RJ0 : String := "java/lang/String"
def TJ0 : u_T := fun k => match k with
  | _ => ("", "", "", false)
def tyJ0 : Nat → FieldType := fun k => match k with
  | _ => .int
abbrev wsJ00 : List Cond := u_ws RJ0 TJ0 0
theorem nmJ0 : ∀ a, a < 0 → ∀ b, b < 0 → a ≠ b → (TJ0 a).2.1 ≠ (TJ0 b).2.1 := by decide +kernel
theorem tyJ0_ok : ∀ k, k < 0 → parseFieldDescriptor (TJ0 k).2.2.1 = some (tyJ0 k) := by decide +kernel
def RJ10 : String := "java/lang/System"
def TJ10 : u_T := fun k => match k with
  | _ => ("", "", "", false)
def tyJ10 : Nat → FieldType := fun k => match k with
  | _ => .int
abbrev wsJ100 : List Cond := u_ws RJ10 TJ10 0
theorem nmJ10 : ∀ a, a < 0 → ∀ b, b < 0 → a ≠ b → (TJ10 a).2.1 ≠ (TJ10 b).2.1 := by decide +kernel
theorem tyJ10_ok : ∀ k, k < 0 → parseFieldDescriptor (TJ10 k).2.2.1 = some (tyJ10 k) := by decide +kernel
def RJ7 : String := "java/util/Arrays"
def TJ7 : u_T := fun k => match k with
  | _ => ("", "", "", false)
def tyJ7 : Nat → FieldType := fun k => match k with
  | _ => .int
abbrev wsJ70 : List Cond := u_ws RJ7 TJ7 0
theorem nmJ7 : ∀ a, a < 0 → ∀ b, b < 0 → a ≠ b → (TJ7 a).2.1 ≠ (TJ7 b).2.1 := by decide +kernel
theorem tyJ7_ok : ∀ k, k < 0 → parseFieldDescriptor (TJ7 k).2.2.1 = some (tyJ7 k) := by decide +kernel
abbrev cJ7_fill_53178 : ByteArray := prog_19_method_103_code
def yJ7_fill_53178 : MethodName := ⟨RJ7, "fill", "([II)V"⟩
def RL : String := "BusBlocksLaw"
abbrev cL_part : ByteArray := method_2_code
def yL_part : MethodName := ⟨RL, "part", "(II)I"⟩
abbrev cL_drawn : ByteArray := method_3_code
def yL_drawn : MethodName := ⟨RL, "drawn", "([II)I"⟩
abbrev cL_call : ByteArray := method_4_code
def yL_call : MethodName := ⟨RL, "call", "(LBusBlocks;IIIJ)I"⟩
abbrev cL_seen : ByteArray := method_5_code
def yL_seen : MethodName := ⟨RL, "seen", "(LBusBlocks;)J"⟩
abbrev cL_far : ByteArray := method_6_code
def yL_far : MethodName := ⟨RL, "far", "(III)I"⟩
abbrev cL_refusesAny : ByteArray := method_7_code
def yL_refusesAny : MethodName := ⟨RL, "refusesAny", "(LBusBlocks;I)Z"⟩
abbrev cL_refused : ByteArray := method_8_code
def yL_refused : MethodName := ⟨RL, "refused", "(LBusBlocks;)Z"⟩
abbrev cL_four : ByteArray := method_9_code
def yL_four : MethodName := ⟨RL, "four", "()Z"⟩
abbrev cL_many : ByteArray := method_10_code
def yL_many : MethodName := ⟨RL, "many", "()Z"⟩
abbrev cL_types : ByteArray := method_11_code
def yL_types : MethodName := ⟨RL, "types", "(LBusBlocks;J)Z"⟩
abbrev cL_isError : ByteArray := method_12_code
def yL_isError : MethodName := ⟨RL, "isError", "(LBusBlocks;JJI)Z"⟩
abbrev cL_texts : ByteArray := method_13_code
def yL_texts : MethodName := ⟨RL, "texts", "()Z"⟩
abbrev cL_law : ByteArray := code
def yL_law : MethodName := ⟨RL, "law", "([I)Z"⟩

abbrev vwCl : List vw_C := [(RX0, TX0, 6), (RX1, TX1, 2), (RX2, TX2, 1), (RX3, TX3, 4), (RX4, TX4, 15), (RX5, TX5, 10)]
