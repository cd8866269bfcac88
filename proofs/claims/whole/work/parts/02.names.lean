def RX0 : String := "LunchMarks$Box"
def TX0 : u_T := fun k => match k with
  | 0 => ("LunchMarks$Box", "there", "LLunchMarks$Trip;", true)
  | _ => ("LunchMarks$Box", "back", "LLunchMarks$Trip;", false)
def tyX0 : Nat → FieldType := fun k => match k with
  | 0 => .object "LunchMarks$Trip"
  | _ => .object "LunchMarks$Trip"
theorem nmX0 : ∀ a, a < 2 → ∀ b, b < 2 → a ≠ b → (TX0 a).2.1 ≠ (TX0 b).2.1 := by decide +kernel
theorem tyX0_ok : ∀ k, k < 2 → parseFieldDescriptor (TX0 k).2.2.1 = some (tyX0 k) := by decide +kernel
abbrev cX0_init : ByteArray := prog_2_method_1_code
def yX0_init : MethodName := ⟨RX0, "<init>", "(LLunchMarks$Trip;)V"⟩
abbrev cX0_isEmpty : ByteArray := prog_2_method_2_code
def yX0_isEmpty : MethodName := ⟨RX0, "isEmpty", "()Z"⟩
abbrev cX0_current : ByteArray := prog_2_method_3_code
def yX0_current : MethodName := ⟨RX0, "current", "()LLunchMarks$Trip;"⟩
abbrev cX0_ledLegs : ByteArray := prog_2_method_4_code
def yX0_ledLegs : MethodName := ⟨RX0, "ledLegs", "()I"⟩
abbrev cX0_ledLeg : ByteArray := prog_2_method_5_code
def yX0_ledLeg : MethodName := ⟨RX0, "ledLeg", "(II)I"⟩
def RX1 : String := "LunchMarks$Gang"
def TX1 : u_T := fun k => match k with
  | 0 => ("LunchMarks$Gang", "days", "[I", true)
  | _ => ("LunchMarks$Gang", "carriers", "I", false)
def tyX1 : Nat → FieldType := fun k => match k with
  | 0 => .array .int
  | _ => .int
theorem nmX1 : ∀ a, a < 2 → ∀ b, b < 2 → a ≠ b → (TX1 a).2.1 ≠ (TX1 b).2.1 := by decide +kernel
theorem tyX1_ok : ∀ k, k < 2 → parseFieldDescriptor (TX1 k).2.2.1 = some (tyX1 k) := by decide +kernel
abbrev cX1_init : ByteArray := prog_3_method_1_code
def yX1_init : MethodName := ⟨RX1, "<init>", "()V"⟩
abbrev cX1_addCarrier : ByteArray := prog_3_method_2_code
def yX1_addCarrier : MethodName := ⟨RX1, "addCarrier", "(I)I"⟩
abbrev cX1_partOf : ByteArray := prog_3_method_3_code
def yX1_partOf : MethodName := ⟨RX1, "partOf", "(II)I"⟩
abbrev cX1_allDays : ByteArray := prog_3_method_4_code
def yX1_allDays : MethodName := ⟨RX1, "allDays", "()I"⟩
abbrev cX1_weighed : ByteArray := prog_3_method_5_code
def yX1_weighed : MethodName := ⟨RX1, "weighed", "(IIZ)I"⟩
def RX2 : String := "LunchMarks$Network"
def TX2 : u_T := fun k => match k with
  | 0 => ("LunchMarks$Network", "sorting", "[I", true)
  | 1 => ("LunchMarks$Network", "stations", "I", false)
  | 2 => ("LunchMarks$Network", "trains", "Ljava/util/ArrayList;", true)
  | 3 => ("LunchMarks$Network", "earliest", "[[I", true)
  | _ => ("LunchMarks$Network", "latest", "[[I", true)
def tyX2 : Nat → FieldType := fun k => match k with
  | 0 => .array .int
  | 1 => .int
  | 2 => .object "java/util/ArrayList"
  | 3 => .array (.array .int)
  | _ => .array (.array .int)
theorem nmX2 : ∀ a, a < 5 → ∀ b, b < 5 → a ≠ b → (TX2 a).2.1 ≠ (TX2 b).2.1 := by decide +kernel
theorem tyX2_ok : ∀ k, k < 5 → parseFieldDescriptor (TX2 k).2.2.1 = some (tyX2 k) := by decide +kernel
abbrev cX2_init : ByteArray := prog_4_method_1_code
def yX2_init : MethodName := ⟨RX2, "<init>", "()V"⟩
abbrev cX2_addStation : ByteArray := prog_4_method_2_code
def yX2_addStation : MethodName := ⟨RX2, "addStation", "(I)I"⟩
abbrev cX2_addTrain : ByteArray := prog_4_method_3_code
def yX2_addTrain : MethodName := ⟨RX2, "addTrain", "(I)I"⟩
abbrev cX2_hasStation : ByteArray := prog_4_method_4_code
def yX2_hasStation : MethodName := ⟨RX2, "hasStation", "(I)Z"⟩
abbrev cX2_beginning : ByteArray := prog_4_method_5_code
def yX2_beginning : MethodName := ⟨RX2, "beginning", "(LLunchMarks$Trip;)I"⟩
abbrev cX2_sortedAt : ByteArray := prog_4_method_6_code
def yX2_sortedAt : MethodName := ⟨RX2, "sortedAt", "(LLunchMarks$Train;I)I"⟩
abbrev cX2_isAboard : ByteArray := prog_4_method_7_code
def yX2_isAboard : MethodName := ⟨RX2, "isAboard", "(LLunchMarks$Trip;I)Z"⟩
abbrev cX2_giveUp : ByteArray := prog_4_method_8_code
def yX2_giveUp : MethodName := ⟨RX2, "giveUp", "(LLunchMarks$Trip;II)V"⟩
abbrev cX2_leadOn : ByteArray := prog_4_method_9_code
def yX2_leadOn : MethodName := ⟨RX2, "leadOn", "(LLunchMarks$Trip;II)Z"⟩
abbrev cX2_takeLegs : ByteArray := prog_4_method_10_code
def yX2_takeLegs : MethodName := ⟨RX2, "takeLegs", "(LLunchMarks$Trip;III)V"⟩
abbrev cX2_legsOfTheWay : ByteArray := prog_4_method_11_code
def yX2_legsOfTheWay : MethodName := ⟨RX2, "legsOfTheWay", "(IIII)I"⟩
abbrev cX2_findEarliest : ByteArray := prog_4_method_12_code
def yX2_findEarliest : MethodName := ⟨RX2, "findEarliest", "([I[I)V"⟩
abbrev cX2_ride : ByteArray := prog_4_method_13_code
def yX2_ride : MethodName := ⟨RX2, "ride", "(LLunchMarks$Train;[I[I)V"⟩
abbrev cX2_findLatest : ByteArray := prog_4_method_14_code
def yX2_findLatest : MethodName := ⟨RX2, "findLatest", "(III)V"⟩
abbrev cX2_rideBackwards : ByteArray := prog_4_method_15_code
def yX2_rideBackwards : MethodName := ⟨RX2, "rideBackwards", "(LLunchMarks$Train;[I[I)V"⟩
abbrev cX2_takeFirstLeg : ByteArray := prog_4_method_16_code
def yX2_takeFirstLeg : MethodName := ⟨RX2, "takeFirstLeg", "(LLunchMarks$Trip;III)Z"⟩
abbrev cX2_firstOff : ByteArray := prog_4_method_17_code
def yX2_firstOff : MethodName := ⟨RX2, "firstOff", "(LLunchMarks$Train;I[I)I"⟩
def RX3 : String := "LunchMarks$Train"
def TX3 : u_T := fun k => match k with
  | 0 => ("LunchMarks$Train", "room", "I", true)
  | 1 => ("LunchMarks$Train", "stations", "[I", true)
  | 2 => ("LunchMarks$Train", "minutes", "[I", true)
  | 3 => ("LunchMarks$Train", "loads", "[I", true)
  | 4 => ("LunchMarks$Train", "stops", "I", false)
  | _ => ("LunchMarks$Train", "cancelled", "Z", false)
def tyX3 : Nat → FieldType := fun k => match k with
  | 0 => .int
  | 1 => .array .int
  | 2 => .array .int
  | 3 => .array .int
  | 4 => .int
  | _ => .boolean
theorem nmX3 : ∀ a, a < 6 → ∀ b, b < 6 → a ≠ b → (TX3 a).2.1 ≠ (TX3 b).2.1 := by decide +kernel
theorem tyX3_ok : ∀ k, k < 6 → parseFieldDescriptor (TX3 k).2.2.1 = some (tyX3 k) := by decide +kernel
abbrev cX3_init : ByteArray := prog_5_method_1_code
def yX3_init : MethodName := ⟨RX3, "<init>", "(I)V"⟩
abbrev cX3_addStop : ByteArray := prog_5_method_2_code
def yX3_addStop : MethodName := ⟨RX3, "addStop", "(II)I"⟩
abbrev cX3_mayFollow : ByteArray := prog_5_method_3_code
def yX3_mayFollow : MethodName := ⟨RX3, "mayFollow", "(II)Z"⟩
abbrev cX3_isUsed : ByteArray := prog_5_method_4_code
def yX3_isUsed : MethodName := ⟨RX3, "isUsed", "()Z"⟩
abbrev cX3_beginsAfter : ByteArray := prog_5_method_5_code
def yX3_beginsAfter : MethodName := ⟨RX3, "beginsAfter", "(I)Z"⟩
abbrev cX3_isFull : ByteArray := prog_5_method_6_code
def yX3_isFull : MethodName := ⟨RX3, "isFull", "(I)Z"⟩
abbrev cX3_changeLoads : ByteArray := prog_5_method_7_code
def yX3_changeLoads : MethodName := ⟨RX3, "changeLoads", "(III)V"⟩
def RX4 : String := "LunchMarks$Trip"
def TX4 : u_T := fun k => match k with
  | 0 => ("LunchMarks$Trip", "from", "I", true)
  | 1 => ("LunchMarks$Trip", "walkFrom", "I", true)
  | 2 => ("LunchMarks$Trip", "ready", "I", true)
  | 3 => ("LunchMarks$Trip", "to", "I", true)
  | 4 => ("LunchMarks$Trip", "walkTo", "I", true)
  | 5 => ("LunchMarks$Trip", "due", "I", true)
  | 6 => ("LunchMarks$Trip", "row", "[I", true)
  | 7 => ("LunchMarks$Trip", "legs", "I", false)
  | 8 => ("LunchMarks$Trip", "hadWay", "Z", false)
  | 9 => ("LunchMarks$Trip", "there", "I", false)
  | 10 => ("LunchMarks$Trip", "standsAt", "I", false)
  | 11 => ("LunchMarks$Trip", "standsSince", "I", false)
  | _ => ("LunchMarks$Trip", "takenOff", "Z", false)
def tyX4 : Nat → FieldType := fun k => match k with
  | 0 => .int
  | 1 => .int
  | 2 => .int
  | 3 => .int
  | 4 => .int
  | 5 => .int
  | 6 => .array .int
  | 7 => .int
  | 8 => .boolean
  | 9 => .int
  | 10 => .int
  | 11 => .int
  | _ => .boolean
theorem nmX4 : ∀ a, a < 13 → ∀ b, b < 13 → a ≠ b → (TX4 a).2.1 ≠ (TX4 b).2.1 := by decide +kernel
theorem tyX4_ok : ∀ k, k < 13 → parseFieldDescriptor (TX4 k).2.2.1 = some (tyX4 k) := by decide +kernel
abbrev cX4_init : ByteArray := prog_6_method_1_code
def yX4_init : MethodName := ⟨RX4, "<init>", "(IIIIII)V"⟩
abbrev cX4_turned : ByteArray := prog_6_method_2_code
def yX4_turned : MethodName := ⟨RX4, "turned", "(II)LLunchMarks$Trip;"⟩
abbrev cX4_legNumber : ByteArray := prog_6_method_3_code
def yX4_legNumber : MethodName := ⟨RX4, "legNumber", "(II)I"⟩
abbrev cX4_addLeg : ByteArray := prog_6_method_4_code
def yX4_addLeg : MethodName := ⟨RX4, "addLeg", "(III)V"⟩
abbrev cX4_firstLegOn : ByteArray := prog_6_method_5_code
def yX4_firstLegOn : MethodName := ⟨RX4, "firstLegOn", "(I)I"⟩
abbrev cX4_hasSameLegs : ByteArray := prog_6_method_6_code
def yX4_hasSameLegs : MethodName := ⟨RX4, "hasSameLegs", "(LLunchMarks$Trip;)Z"⟩
abbrev cX4_endWayAt : ByteArray := prog_6_method_7_code
def yX4_endWayAt : MethodName := ⟨RX4, "endWayAt", "(I)V"⟩
abbrev cX4_standAt : ByteArray := prog_6_method_8_code
def yX4_standAt : MethodName := ⟨RX4, "standAt", "(II)V"⟩
abbrev cX4_stands : ByteArray := prog_6_method_9_code
def yX4_stands : MethodName := ⟨RX4, "stands", "()Z"⟩
abbrev cX4_hasWay : ByteArray := prog_6_method_10_code
def yX4_hasWay : MethodName := ⟨RX4, "hasWay", "()Z"⟩
abbrev cX4_arrival : ByteArray := prog_6_method_11_code
def yX4_arrival : MethodName := ⟨RX4, "arrival", "()I"⟩
abbrev cX4_isLate : ByteArray := prog_6_method_12_code
def yX4_isLate : MethodName := ⟨RX4, "isLate", "()Z"⟩
abbrev cX4_isGoneBy : ByteArray := prog_6_method_13_code
def yX4_isGoneBy : MethodName := ⟨RX4, "isGoneBy", "(I)Z"⟩
abbrev cX4_isThereBy : ByteArray := prog_6_method_14_code
def yX4_isThereBy : MethodName := ⟨RX4, "isThereBy", "(I)Z"⟩
abbrev cX4_hasArrivedBy : ByteArray := prog_6_method_15_code
def yX4_hasArrivedBy : MethodName := ⟨RX4, "hasArrivedBy", "(I)Z"⟩
def RX5 : String := "LunchMarks"
def TX5 : u_T := fun k => match k with
  | 0 => ("LunchMarks", "network", "LLunchMarks$Network;", true)
  | 1 => ("LunchMarks", "boxes", "Ljava/util/ArrayList;", true)
  | 2 => ("LunchMarks", "gang", "LLunchMarks$Gang;", true)
  | 3 => ("LunchMarks", "marks", "[I", true)
  | _ => ("LunchMarks", "now", "I", false)
def tyX5 : Nat → FieldType := fun k => match k with
  | 0 => .object "LunchMarks$Network"
  | 1 => .object "java/util/ArrayList"
  | 2 => .object "LunchMarks$Gang"
  | 3 => .array .int
  | _ => .int
theorem nmX5 : ∀ a, a < 5 → ∀ b, b < 5 → a ≠ b → (TX5 a).2.1 ≠ (TX5 b).2.1 := by decide +kernel
theorem tyX5_ok : ∀ k, k < 5 → parseFieldDescriptor (TX5 k).2.2.1 = some (tyX5 k) := by decide +kernel
abbrev cX5_init : ByteArray := prog_1_method_1_code
def yX5_init : MethodName := ⟨RX5, "<init>", "()V"⟩
abbrev cX5_station : ByteArray := prog_1_method_2_code
def yX5_station : MethodName := ⟨RX5, "station", "(I)I"⟩
abbrev cX5_train : ByteArray := prog_1_method_3_code
def yX5_train : MethodName := ⟨RX5, "train", "(I)I"⟩
abbrev cX5_stop : ByteArray := prog_1_method_4_code
def yX5_stop : MethodName := ⟨RX5, "stop", "(III)I"⟩
abbrev cX5_box : ByteArray := prog_1_method_5_code
def yX5_box : MethodName := ⟨RX5, "box", "(IIIIII)I"⟩
abbrev cX5_plan : ByteArray := prog_1_method_6_code
def yX5_plan : MethodName := ⟨RX5, "plan", "()I"⟩
abbrev cX5_minutes : ByteArray := prog_1_method_7_code
def yX5_minutes : MethodName := ⟨RX5, "minutes", "(I)I"⟩
abbrev cX5_cancel : ByteArray := prog_1_method_8_code
def yX5_cancel : MethodName := ⟨RX5, "cancel", "(I)I"⟩
abbrev cX5_empty : ByteArray := prog_1_method_9_code
def yX5_empty : MethodName := ⟨RX5, "empty", "(II)Z"⟩
abbrev cX5_of : ByteArray := prog_1_method_10_code
def yX5_of : MethodName := ⟨RX5, "of", "(II)I"⟩
abbrev cX5_leg : ByteArray := prog_1_method_11_code
def yX5_leg : MethodName := ⟨RX5, "leg", "(III)I"⟩
abbrev cX5_load : ByteArray := prog_1_method_12_code
def yX5_load : MethodName := ⟨RX5, "load", "(II)I"⟩
abbrev cX5_where : ByteArray := prog_1_method_13_code
def yX5_where : MethodName := ⟨RX5, "where", "(I)I"⟩
abbrev cX5_mark : ByteArray := prog_1_method_14_code
def yX5_mark : MethodName := ⟨RX5, "mark", "(I)I"⟩
abbrev cX5_carrier : ByteArray := prog_1_method_15_code
def yX5_carrier : MethodName := ⟨RX5, "carrier", "(I)I"⟩
abbrev cX5_share : ByteArray := prog_1_method_16_code
def yX5_share : MethodName := ⟨RX5, "share", "(II)I"⟩
abbrev cX5_count : ByteArray := prog_1_method_17_code
def yX5_count : MethodName := ⟨RX5, "count", "(I)I"⟩
abbrev cX5_isWithin : ByteArray := prog_1_method_18_code
def yX5_isWithin : MethodName := ⟨RX5, "isWithin", "(II)Z"⟩
abbrev cX5_isMinute : ByteArray := prog_1_method_19_code
def yX5_isMinute : MethodName := ⟨RX5, "isMinute", "(I)Z"⟩
abbrev cX5_asNumber : ByteArray := prog_1_method_20_code
def yX5_asNumber : MethodName := ⟨RX5, "asNumber", "(Z)I"⟩
abbrev cX5_trainOf : ByteArray := prog_1_method_21_code
def yX5_trainOf : MethodName := ⟨RX5, "trainOf", "(I)LLunchMarks$Train;"⟩
abbrev cX5_boxOf : ByteArray := prog_1_method_22_code
def yX5_boxOf : MethodName := ⟨RX5, "boxOf", "(I)LLunchMarks$Box;"⟩
abbrev cX5_leadByPlan : ByteArray := prog_1_method_23_code
def yX5_leadByPlan : MethodName := ⟨RX5, "leadByPlan", "(LLunchMarks$Trip;)Z"⟩
abbrev cX5_takeOffAll : ByteArray := prog_1_method_24_code
def yX5_takeOffAll : MethodName := ⟨RX5, "takeOffAll", "(I)I"⟩
abbrev cX5_leadAnew : ByteArray := prog_1_method_25_code
def yX5_leadAnew : MethodName := ⟨RX5, "leadAnew", "()V"⟩
abbrev cX5_boxesWithWay : ByteArray := prog_1_method_26_code
def yX5_boxesWithWay : MethodName := ⟨RX5, "boxesWithWay", "()I"⟩
abbrev cX5_lateBoxes : ByteArray := prog_1_method_27_code
def yX5_lateBoxes : MethodName := ⟨RX5, "lateBoxes", "()I"⟩
abbrev cX5_numberMarks : ByteArray := prog_1_method_28_code
def yX5_numberMarks : MethodName := ⟨RX5, "numberMarks", "()I"⟩
abbrev cX5_markOfLikeBox : ByteArray := prog_1_method_29_code
def yX5_markOfLikeBox : MethodName := ⟨RX5, "markOfLikeBox", "(I)I"⟩
def RX6 : String := "LunchMarksModel"
def TX6 : u_T := fun k => match k with
  | 0 => ("LunchMarksModel", "code", "I", false)
  | 1 => ("LunchMarksModel", "now", "I", false)
  | 2 => ("LunchMarksModel", "stations", "I", false)
  | 3 => ("LunchMarksModel", "trains", "I", false)
  | 4 => ("LunchMarksModel", "boxes", "I", false)
  | 5 => ("LunchMarksModel", "carriers", "I", false)
  | 6 => ("LunchMarksModel", "sorting", "[I", true)
  | 7 => ("LunchMarksModel", "room", "[I", true)
  | 8 => ("LunchMarksModel", "stops", "[I", true)
  | 9 => ("LunchMarksModel", "stopStation", "[I", true)
  | 10 => ("LunchMarksModel", "stopMinute", "[I", true)
  | 11 => ("LunchMarksModel", "loads", "[I", true)
  | 12 => ("LunchMarksModel", "days", "[I", true)
  | 13 => ("LunchMarksModel", "isCancelled", "[Z", true)
  | 14 => ("LunchMarksModel", "home", "[I", true)
  | 15 => ("LunchMarksModel", "walk", "[I", true)
  | 16 => ("LunchMarksModel", "ready", "[I", true)
  | 17 => ("LunchMarksModel", "desk", "[I", true)
  | 18 => ("LunchMarksModel", "walkThere", "[I", true)
  | 19 => ("LunchMarksModel", "due", "[I", true)
  | 20 => ("LunchMarksModel", "readyBack", "[I", true)
  | 21 => ("LunchMarksModel", "isEmpty", "[Z", true)
  | 22 => ("LunchMarksModel", "had", "[Z", true)
  | 23 => ("LunchMarksModel", "has", "[Z", true)
  | 24 => ("LunchMarksModel", "many", "[I", true)
  | 25 => ("LunchMarksModel", "stands", "[I", true)
  | 26 => ("LunchMarksModel", "since", "[I", true)
  | 27 => ("LunchMarksModel", "legTrain", "[I", true)
  | 28 => ("LunchMarksModel", "legOn", "[I", true)
  | 29 => ("LunchMarksModel", "legOff", "[I", true)
  | 30 => ("LunchMarksModel", "early", "[I", true)
  | 31 => ("LunchMarksModel", "few", "[I", true)
  | 32 => ("LunchMarksModel", "bestTime", "I", false)
  | 33 => ("LunchMarksModel", "bestLegs", "I", false)
  | 34 => ("LunchMarksModel", "bestTrain", "I", false)
  | 35 => ("LunchMarksModel", "bestOn", "I", false)
  | 36 => ("LunchMarksModel", "bestOff", "I", false)
  | _ => ("LunchMarksModel", "gives", "[Z", true)
def tyX6 : Nat → FieldType := fun k => match k with
  | 0 => .int
  | 1 => .int
  | 2 => .int
  | 3 => .int
  | 4 => .int
  | 5 => .int
  | 6 => .array .int
  | 7 => .array .int
  | 8 => .array .int
  | 9 => .array .int
  | 10 => .array .int
  | 11 => .array .int
  | 12 => .array .int
  | 13 => .array .boolean
  | 14 => .array .int
  | 15 => .array .int
  | 16 => .array .int
  | 17 => .array .int
  | 18 => .array .int
  | 19 => .array .int
  | 20 => .array .int
  | 21 => .array .boolean
  | 22 => .array .boolean
  | 23 => .array .boolean
  | 24 => .array .int
  | 25 => .array .int
  | 26 => .array .int
  | 27 => .array .int
  | 28 => .array .int
  | 29 => .array .int
  | 30 => .array .int
  | 31 => .array .int
  | 32 => .int
  | 33 => .int
  | 34 => .int
  | 35 => .int
  | 36 => .int
  | _ => .array .boolean
theorem nmX6 : ∀ a, a < 38 → ∀ b, b < 38 → a ≠ b → (TX6 a).2.1 ≠ (TX6 b).2.1 := by decide +kernel
theorem tyX6_ok : ∀ k, k < 38 → parseFieldDescriptor (TX6 k).2.2.1 = some (tyX6 k) := by decide +kernel
abbrev cX6_init : ByteArray := prog_8_method_1_code
def yX6_init : MethodName := ⟨RX6, "<init>", "()V"⟩
abbrev cX6_thrown : ByteArray := prog_8_method_2_code
def yX6_thrown : MethodName := ⟨RX6, "thrown", "()I"⟩
abbrev cX6_fail : ByteArray := prog_8_method_3_code
def yX6_fail : MethodName := ⟨RX6, "fail", "()I"⟩
abbrev cX6_isTrain : ByteArray := prog_8_method_4_code
def yX6_isTrain : MethodName := ⟨RX6, "isTrain", "(I)Z"⟩
abbrev cX6_isBox : ByteArray := prog_8_method_5_code
def yX6_isBox : MethodName := ⟨RX6, "isBox", "(I)Z"⟩
abbrev cX6_station : ByteArray := prog_8_method_6_code
def yX6_station : MethodName := ⟨RX6, "station", "(I)I"⟩
abbrev cX6_train : ByteArray := prog_8_method_7_code
def yX6_train : MethodName := ⟨RX6, "train", "(I)I"⟩
abbrev cX6_node : ByteArray := prog_8_method_8_code
def yX6_node : MethodName := ⟨RX6, "node", "(II)I"⟩
abbrev cX6_stop : ByteArray := prog_8_method_9_code
def yX6_stop : MethodName := ⟨RX6, "stop", "(III)I"⟩
abbrev cX6_box : ByteArray := prog_8_method_10_code
def yX6_box : MethodName := ⟨RX6, "box", "(IIIIII)I"⟩
abbrev cX6_wayOf : ByteArray := prog_8_method_11_code
def yX6_wayOf : MethodName := ⟨RX6, "wayOf", "(I)I"⟩
abbrev cX6_fromOf : ByteArray := prog_8_method_12_code
def yX6_fromOf : MethodName := ⟨RX6, "fromOf", "(I)I"⟩
abbrev cX6_toOf : ByteArray := prog_8_method_13_code
def yX6_toOf : MethodName := ⟨RX6, "toOf", "(I)I"⟩
abbrev cX6_readyOf : ByteArray := prog_8_method_14_code
def yX6_readyOf : MethodName := ⟨RX6, "readyOf", "(I)I"⟩
abbrev cX6_sortedAt : ByteArray := prog_8_method_15_code
def yX6_sortedAt : MethodName := ⟨RX6, "sortedAt", "(I)I"⟩
abbrev cX6_legAt : ByteArray := prog_8_method_16_code
def yX6_legAt : MethodName := ⟨RX6, "legAt", "(II)I"⟩
abbrev cX6_behind : ByteArray := prog_8_method_17_code
def yX6_behind : MethodName := ⟨RX6, "behind", "(I)I"⟩
abbrev cX6_there : ByteArray := prog_8_method_18_code
def yX6_there : MethodName := ⟨RX6, "there", "(II)I"⟩
abbrev cX6_arrives : ByteArray := prog_8_method_19_code
def yX6_arrives : MethodName := ⟨RX6, "arrives", "(I)I"⟩
abbrev cX6_isFree : ByteArray := prog_8_method_20_code
def yX6_isFree : MethodName := ⟨RX6, "isFree", "(II)Z"⟩
abbrev cX6_reckon : ByteArray := prog_8_method_21_code
def yX6_reckon : MethodName := ⟨RX6, "reckon", "(I)V"⟩
abbrev cX6_reckonOne : ByteArray := prog_8_method_22_code
def yX6_reckonOne : MethodName := ⟨RX6, "reckonOne", "(IIIII)V"⟩
abbrev cX6_look : ByteArray := prog_8_method_23_code
def yX6_look : MethodName := ⟨RX6, "look", "(IIII)V"⟩
abbrev cX6_lookLeg : ByteArray := prog_8_method_24_code
def yX6_lookLeg : MethodName := ⟨RX6, "lookLeg", "(IIII)V"⟩
abbrev cX6_lead : ByteArray := prog_8_method_25_code
def yX6_lead : MethodName := ⟨RX6, "lead", "(III)Z"⟩
abbrev cX6_load0 : ByteArray := prog_8_method_26_code
def yX6_load0 : MethodName := ⟨RX6, "load0", "(III)V"⟩
abbrev cX6_leadOn : ByteArray := prog_8_method_27_code
def yX6_leadOn : MethodName := ⟨RX6, "leadOn", "(III)Z"⟩
abbrev cX6_plan : ByteArray := prog_8_method_28_code
def yX6_plan : MethodName := ⟨RX6, "plan", "()I"⟩
abbrev cX6_minutes : ByteArray := prog_8_method_29_code
def yX6_minutes : MethodName := ⟨RX6, "minutes", "(I)I"⟩
abbrev cX6_firstOn : ByteArray := prog_8_method_30_code
def yX6_firstOn : MethodName := ⟨RX6, "firstOn", "(II)I"⟩
abbrev cX6_cancel : ByteArray := prog_8_method_31_code
def yX6_cancel : MethodName := ⟨RX6, "cancel", "(I)I"⟩
abbrev cX6_empty : ByteArray := prog_8_method_32_code
def yX6_empty : MethodName := ⟨RX6, "empty", "(II)Z"⟩
abbrev cX6_isGone : ByteArray := prog_8_method_33_code
def yX6_isGone : MethodName := ⟨RX6, "isGone", "(I)Z"⟩
abbrev cX6_isLate : ByteArray := prog_8_method_34_code
def yX6_isLate : MethodName := ⟨RX6, "isLate", "(I)Z"⟩
abbrev cX6_of : ByteArray := prog_8_method_35_code
def yX6_of : MethodName := ⟨RX6, "of", "(II)I"⟩
abbrev cX6_leg : ByteArray := prog_8_method_36_code
def yX6_leg : MethodName := ⟨RX6, "leg", "(III)I"⟩
abbrev cX6_load : ByteArray := prog_8_method_37_code
def yX6_load : MethodName := ⟨RX6, "load", "(II)I"⟩
abbrev cX6_where : ByteArray := prog_8_method_38_code
def yX6_where : MethodName := ⟨RX6, "where", "(I)I"⟩
abbrev cX6_isAlike : ByteArray := prog_8_method_39_code
def yX6_isAlike : MethodName := ⟨RX6, "isAlike", "(II)Z"⟩
abbrev cX6_firstLike : ByteArray := prog_8_method_40_code
def yX6_firstLike : MethodName := ⟨RX6, "firstLike", "(I)I"⟩
abbrev cX6_marksUpTo : ByteArray := prog_8_method_41_code
def yX6_marksUpTo : MethodName := ⟨RX6, "marksUpTo", "(I)I"⟩
abbrev cX6_mark : ByteArray := prog_8_method_42_code
def yX6_mark : MethodName := ⟨RX6, "mark", "(I)I"⟩
abbrev cX6_carrier : ByteArray := prog_8_method_43_code
def yX6_carrier : MethodName := ⟨RX6, "carrier", "(I)I"⟩
abbrev cX6_share : ByteArray := prog_8_method_44_code
def yX6_share : MethodName := ⟨RX6, "share", "(II)I"⟩
abbrev cX6_count : ByteArray := prog_8_method_45_code
def yX6_count : MethodName := ⟨RX6, "count", "(I)I"⟩
def RJx145de : String := "java/io/Serializable"
def TJx145de : u_T := fun k => match k with
  | _ => ("", "", "", false)
def tyJx145de : Nat → FieldType := fun k => match k with
  | _ => .int
theorem nmJx145de : ∀ a, a < 0 → ∀ b, b < 0 → a ≠ b → (TJx145de a).2.1 ≠ (TJx145de b).2.1 := by decide +kernel
theorem tyJx145de_ok : ∀ k, k < 0 → parseFieldDescriptor (TJx145de k).2.2.1 = some (tyJx145de k) := by decide +kernel
def RJx8e188 : String := "java/lang/Cloneable"
def TJx8e188 : u_T := fun k => match k with
  | _ => ("", "", "", false)
def tyJx8e188 : Nat → FieldType := fun k => match k with
  | _ => .int
theorem nmJx8e188 : ∀ a, a < 0 → ∀ b, b < 0 → a ≠ b → (TJx8e188 a).2.1 ≠ (TJx8e188 b).2.1 := by decide +kernel
theorem tyJx8e188_ok : ∀ k, k < 0 → parseFieldDescriptor (TJx8e188 k).2.2.1 = some (tyJx8e188 k) := by decide +kernel
def RJxab1ab : String := "java/lang/Iterable"
def TJxab1ab : u_T := fun k => match k with
  | _ => ("", "", "", false)
def tyJxab1ab : Nat → FieldType := fun k => match k with
  | _ => .int
theorem nmJxab1ab : ∀ a, a < 0 → ∀ b, b < 0 → a ≠ b → (TJxab1ab a).2.1 ≠ (TJxab1ab b).2.1 := by decide +kernel
theorem tyJxab1ab_ok : ∀ k, k < 0 → parseFieldDescriptor (TJxab1ab k).2.2.1 = some (tyJxab1ab k) := by decide +kernel
def RJ9 : String := "java/lang/Math"
def TJ9 : u_T := fun k => match k with
  | _ => ("", "", "", false)
def tyJ9 : Nat → FieldType := fun k => match k with
  | _ => .int
theorem nmJ9 : ∀ a, a < 0 → ∀ b, b < 0 → a ≠ b → (TJ9 a).2.1 ≠ (TJ9 b).2.1 := by decide +kernel
theorem tyJ9_ok : ∀ k, k < 0 → parseFieldDescriptor (TJ9 k).2.2.1 = some (tyJ9 k) := by decide +kernel
abbrev cJ9_max_7cf53 : ByteArray := prog_14_method_65_code
def yJ9_max_7cf53 : MethodName := ⟨RJ9, "max", "(II)I"⟩
abbrev cJ9_min_7cf53 : ByteArray := prog_14_method_69_code
def yJ9_min_7cf53 : MethodName := ⟨RJ9, "min", "(II)I"⟩
def RJ0 : String := "java/lang/String"
def TJ0 : u_T := fun k => match k with
  | _ => ("", "", "", false)
def tyJ0 : Nat → FieldType := fun k => match k with
  | _ => .int
theorem nmJ0 : ∀ a, a < 0 → ∀ b, b < 0 → a ≠ b → (TJ0 a).2.1 ≠ (TJ0 b).2.1 := by decide +kernel
theorem tyJ0_ok : ∀ k, k < 0 → parseFieldDescriptor (TJ0 k).2.2.1 = some (tyJ0 k) := by decide +kernel
def RJ10 : String := "java/lang/System"
def TJ10 : u_T := fun k => match k with
  | _ => ("", "", "", false)
def tyJ10 : Nat → FieldType := fun k => match k with
  | _ => .int
theorem nmJ10 : ∀ a, a < 0 → ∀ b, b < 0 → a ≠ b → (TJ10 a).2.1 ≠ (TJ10 b).2.1 := by decide +kernel
theorem tyJ10_ok : ∀ k, k < 0 → parseFieldDescriptor (TJ10 k).2.2.1 = some (tyJ10 k) := by decide +kernel
def RJxa1e45 : String := "java/util/AbstractCollection"
def TJxa1e45 : u_T := fun k => match k with
  | _ => ("", "", "", false)
def tyJxa1e45 : Nat → FieldType := fun k => match k with
  | _ => .int
theorem nmJxa1e45 : ∀ a, a < 0 → ∀ b, b < 0 → a ≠ b → (TJxa1e45 a).2.1 ≠ (TJxa1e45 b).2.1 := by decide +kernel
theorem tyJxa1e45_ok : ∀ k, k < 0 → parseFieldDescriptor (TJxa1e45 k).2.2.1 = some (tyJxa1e45 k) := by decide +kernel
abbrev cJxa1e45_init_da8c8 : ByteArray := prog_19_method_1_code
def yJxa1e45_init_da8c8 : MethodName := ⟨RJxa1e45, "<init>", "()V"⟩
def RJxc12de : String := "java/util/AbstractList"
def TJxc12de : u_T := fun k => match k with
  | _ => ("", "", "", false)
def tyJxc12de : Nat → FieldType := fun k => match k with
  | _ => .int
theorem nmJxc12de : ∀ a, a < 0 → ∀ b, b < 0 → a ≠ b → (TJxc12de a).2.1 ≠ (TJxc12de b).2.1 := by decide +kernel
theorem tyJxc12de_ok : ∀ k, k < 0 → parseFieldDescriptor (TJxc12de k).2.2.1 = some (tyJxc12de k) := by decide +kernel
abbrev cJxc12de_init_da8c8 : ByteArray := prog_20_method_1_code
def yJxc12de_init_da8c8 : MethodName := ⟨RJxc12de, "<init>", "()V"⟩
def RJx4a65c : String := "java/util/ArrayList"
def TJx4a65c : u_T := fun k => match k with
  | 0 => ("java/util/AbstractList", "modCount", "I", false)
  | 1 => ("java/util/ArrayList", "elementData", "[Ljava/lang/Object;", false)
  | _ => ("java/util/ArrayList", "size", "I", false)
def tyJx4a65c : Nat → FieldType := fun k => match k with
  | 0 => .int
  | 1 => .array (.object "java/lang/Object")
  | _ => .int
theorem nmJx4a65c : ∀ a, a < 3 → ∀ b, b < 3 → a ≠ b → (TJx4a65c a).2.1 ≠ (TJx4a65c b).2.1 := by decide +kernel
theorem tyJx4a65c_ok : ∀ k, k < 3 → parseFieldDescriptor (TJx4a65c k).2.2.1 = some (tyJx4a65c k) := by decide +kernel
abbrev cJx4a65c_init_da8c8 : ByteArray := prog_21_method_2_code
def yJx4a65c_init_da8c8 : MethodName := ⟨RJx4a65c, "<init>", "()V"⟩
abbrev cJx4a65c_grow_92f84 : ByteArray := prog_21_method_6_code
def yJx4a65c_grow_92f84 : MethodName := ⟨RJx4a65c, "grow", "(I)[Ljava/lang/Object;"⟩
abbrev cJx4a65c_grow_d5877 : ByteArray := prog_21_method_7_code
def yJx4a65c_grow_d5877 : MethodName := ⟨RJx4a65c, "grow", "()[Ljava/lang/Object;"⟩
abbrev cJx4a65c_size_8abf5 : ByteArray := prog_21_method_8_code
def yJx4a65c_size_8abf5 : MethodName := ⟨RJx4a65c, "size", "()I"⟩
abbrev cJx4a65c_elementData_915e3 : ByteArray := prog_21_method_18_code
def yJx4a65c_elementData_915e3 : MethodName := ⟨RJx4a65c, "elementData", "(I)Ljava/lang/Object;"⟩
abbrev cJx4a65c_get_915e3 : ByteArray := prog_21_method_20_code
def yJx4a65c_get_915e3 : MethodName := ⟨RJx4a65c, "get", "(I)Ljava/lang/Object;"⟩
abbrev cJx4a65c_add_72be8 : ByteArray := prog_21_method_24_code
def yJx4a65c_add_72be8 : MethodName := ⟨RJx4a65c, "add", "(Ljava/lang/Object;[Ljava/lang/Object;I)V"⟩
abbrev cJx4a65c_add_9ea2d : ByteArray := prog_21_method_25_code
def yJx4a65c_add_9ea2d : MethodName := ⟨RJx4a65c, "add", "(Ljava/lang/Object;)Z"⟩
def RJ7 : String := "java/util/Arrays"
def TJ7 : u_T := fun k => match k with
  | _ => ("", "", "", false)
def tyJ7 : Nat → FieldType := fun k => match k with
  | _ => .int
theorem nmJ7 : ∀ a, a < 0 → ∀ b, b < 0 → a ≠ b → (TJ7 a).2.1 ≠ (TJ7 b).2.1 := by decide +kernel
theorem tyJ7_ok : ∀ k, k < 0 → parseFieldDescriptor (TJ7 k).2.2.1 = some (tyJ7 k) := by decide +kernel
abbrev cJ7_fill_53178 : ByteArray := prog_22_method_103_code
def yJ7_fill_53178 : MethodName := ⟨RJ7, "fill", "([II)V"⟩
abbrev cJ7_copyOf_1904c : ByteArray := prog_22_method_119_code
def yJ7_copyOf_1904c : MethodName := ⟨RJ7, "copyOf", "([Ljava/lang/Object;I)[Ljava/lang/Object;"⟩
abbrev cJ7_copyOf_6403c : ByteArray := prog_22_method_120_code
def yJ7_copyOf_6403c : MethodName := ⟨RJ7, "copyOf", "([Ljava/lang/Object;ILjava/lang/Class;)[Ljava/lang/Object;"⟩
def RJx5ef63 : String := "java/util/Collection"
def TJx5ef63 : u_T := fun k => match k with
  | _ => ("", "", "", false)
def tyJx5ef63 : Nat → FieldType := fun k => match k with
  | _ => .int
theorem nmJx5ef63 : ∀ a, a < 0 → ∀ b, b < 0 → a ≠ b → (TJx5ef63 a).2.1 ≠ (TJx5ef63 b).2.1 := by decide +kernel
theorem tyJx5ef63_ok : ∀ k, k < 0 → parseFieldDescriptor (TJx5ef63 k).2.2.1 = some (tyJx5ef63 k) := by decide +kernel
def RJxbd725 : String := "java/util/List"
def TJxbd725 : u_T := fun k => match k with
  | _ => ("", "", "", false)
def tyJxbd725 : Nat → FieldType := fun k => match k with
  | _ => .int
theorem nmJxbd725 : ∀ a, a < 0 → ∀ b, b < 0 → a ≠ b → (TJxbd725 a).2.1 ≠ (TJxbd725 b).2.1 := by decide +kernel
theorem tyJxbd725_ok : ∀ k, k < 0 → parseFieldDescriptor (TJxbd725 k).2.2.1 = some (tyJxbd725 k) := by decide +kernel
def RJ15 : String := "java/util/Objects"
def TJ15 : u_T := fun k => match k with
  | _ => ("", "", "", false)
def tyJ15 : Nat → FieldType := fun k => match k with
  | _ => .int
theorem nmJ15 : ∀ a, a < 0 → ∀ b, b < 0 → a ≠ b → (TJ15 a).2.1 ≠ (TJ15 b).2.1 := by decide +kernel
theorem tyJ15_ok : ∀ k, k < 0 → parseFieldDescriptor (TJ15 k).2.2.1 = some (tyJ15 k) := by decide +kernel
abbrev cJ15_checkIndex_7cf53 : ByteArray := prog_26_method_17_code
def yJ15_checkIndex_7cf53 : MethodName := ⟨RJ15, "checkIndex", "(II)I"⟩
def RJxf0a74 : String := "java/util/RandomAccess"
def TJxf0a74 : u_T := fun k => match k with
  | _ => ("", "", "", false)
def tyJxf0a74 : Nat → FieldType := fun k => match k with
  | _ => .int
theorem nmJxf0a74 : ∀ a, a < 0 → ∀ b, b < 0 → a ≠ b → (TJxf0a74 a).2.1 ≠ (TJxf0a74 b).2.1 := by decide +kernel
theorem tyJxf0a74_ok : ∀ k, k < 0 → parseFieldDescriptor (TJxf0a74 k).2.2.1 = some (tyJxf0a74 k) := by decide +kernel
def RJxa66e6 : String := "java/util/SequencedCollection"
def TJxa66e6 : u_T := fun k => match k with
  | _ => ("", "", "", false)
def tyJxa66e6 : Nat → FieldType := fun k => match k with
  | _ => .int
theorem nmJxa66e6 : ∀ a, a < 0 → ∀ b, b < 0 → a ≠ b → (TJxa66e6 a).2.1 ≠ (TJxa66e6 b).2.1 := by decide +kernel
theorem tyJxa66e6_ok : ∀ k, k < 0 → parseFieldDescriptor (TJxa66e6 k).2.2.1 = some (tyJxa66e6 k) := by decide +kernel
def RJ8 : String := "jdk/internal/util/ArraysSupport"
def TJ8 : u_T := fun k => match k with
  | _ => ("", "", "", false)
def tyJ8 : Nat → FieldType := fun k => match k with
  | _ => .int
theorem nmJ8 : ∀ a, a < 0 → ∀ b, b < 0 → a ≠ b → (TJ8 a).2.1 ≠ (TJ8 b).2.1 := by decide +kernel
theorem tyJ8_ok : ∀ k, k < 0 → parseFieldDescriptor (TJ8 k).2.2.1 = some (tyJ8 k) := by decide +kernel
abbrev cJ8_newLength_cabcc : ByteArray := prog_29_method_27_code
def yJ8_newLength_cabcc : MethodName := ⟨RJ8, "newLength", "(III)I"⟩
abbrev cJ8_hugeLength_7cf53 : ByteArray := prog_29_method_28_code
def yJ8_hugeLength_7cf53 : MethodName := ⟨RJ8, "hugeLength", "(II)I"⟩
def RJ3 : String := "jdk/internal/util/Preconditions"
def TJ3 : u_T := fun k => match k with
  | _ => ("", "", "", false)
def tyJ3 : Nat → FieldType := fun k => match k with
  | _ => .int
theorem nmJ3 : ∀ a, a < 0 → ∀ b, b < 0 → a ≠ b → (TJ3 a).2.1 ≠ (TJ3 b).2.1 := by decide +kernel
theorem tyJ3_ok : ∀ k, k < 0 → parseFieldDescriptor (TJ3 k).2.2.1 = some (tyJ3 k) := by decide +kernel
abbrev cJ3_checkIndex_8e157 : ByteArray := prog_30_method_11_code
def yJ3_checkIndex_8e157 : MethodName := ⟨RJ3, "checkIndex", "(IILjava/util/function/BiFunction;)I"⟩
def RL : String := "LunchMarksLaw"
abbrev cL_stop : ByteArray := method_3_code
def yL_stop : MethodName := ⟨RL, "stop", "(LLunchMarks;III[J)I"⟩
abbrev cL_minutes : ByteArray := method_4_code
def yL_minutes : MethodName := ⟨RL, "minutes", "(LLunchMarks;I[J)I"⟩
abbrev cL_cancel : ByteArray := method_5_code
def yL_cancel : MethodName := ⟨RL, "cancel", "(LLunchMarks;I[J)I"⟩
abbrev cL_empty : ByteArray := method_6_code
def yL_empty : MethodName := ⟨RL, "empty", "(LLunchMarks;II[J)I"⟩
abbrev cL_of : ByteArray := method_7_code
def yL_of : MethodName := ⟨RL, "of", "(LLunchMarks;II[J)I"⟩
abbrev cL_leg : ByteArray := method_8_code
def yL_leg : MethodName := ⟨RL, "leg", "(LLunchMarks;III[J)I"⟩
abbrev cL_load : ByteArray := method_9_code
def yL_load : MethodName := ⟨RL, "load", "(LLunchMarks;II[J)I"⟩
abbrev cL_where : ByteArray := method_10_code
def yL_where : MethodName := ⟨RL, "where", "(LLunchMarks;I[J)I"⟩
abbrev cL_mark : ByteArray := method_11_code
def yL_mark : MethodName := ⟨RL, "mark", "(LLunchMarks;I[J)I"⟩
abbrev cL_share : ByteArray := method_12_code
def yL_share : MethodName := ⟨RL, "share", "(LLunchMarks;II[J)I"⟩
abbrev cL_count : ByteArray := method_13_code
def yL_count : MethodName := ⟨RL, "count", "(LLunchMarks;I[J)I"⟩
abbrev cL_law : ByteArray := code
def yL_law : MethodName := ⟨RL, "law", "([I)Z"⟩
abbrev vwCl : List vw_C := [(RJx4a65c, TJx4a65c, 3), (RX0, TX0, 2), (RX1, TX1, 2), (RX2, TX2, 5), (RX3, TX3, 6), (RX4, TX4, 13), (RX5, TX5, 5), (RX6, TX6, 38)]
