-- names, fields, decode rows: out of the printed names; one list of words for all methods
def RX0 : String := "SemaphoreBay$Block"
def TX0 : u_T := fun k => match k with
  | 0 => ("SemaphoreBay$Block", "length", "I", false)
  | 1 => ("SemaphoreBay$Block", "heldBy", "I", false)
  | 2 => ("SemaphoreBay$Block", "lockedFor", "I", false)
  | _ => ("SemaphoreBay$Block", "shutTill", "I", false)
def tyX0 : Nat → FieldType := fun k => match k with
  | 0 => .int
  | 1 => .int
  | 2 => .int
  | _ => .int
abbrev wsX00 : List Cond := u_ws RX0 TX0 4
theorem nmX0 : ∀ a, a < 4 → ∀ b, b < 4 → a ≠ b → (TX0 a).2.1 ≠ (TX0 b).2.1 := by decide +kernel
theorem tyX0_ok : ∀ k, k < 4 → parseFieldDescriptor (TX0 k).2.2.1 = some (tyX0 k) := by decide +kernel
abbrev cX0_init : ByteArray := prog_2_method_1_code
def yX0_init : MethodName := ⟨RX0, "<init>", "()V"⟩
abbrev cX0_takeFrom : ByteArray := prog_2_method_2_code
def yX0_takeFrom : MethodName := ⟨RX0, "takeFrom", "(LSemaphoreBay$Block;)V"⟩
def RX1 : String := "SemaphoreBay$Line"
def TX1 : u_T := fun k => match k with
  | 0 => ("SemaphoreBay$Line", "platforms", "[I", true)
  | 1 => ("SemaphoreBay$Line", "blocks", "[LSemaphoreBay$Block;", true)
  | 2 => ("SemaphoreBay$Line", "blockCount", "I", false)
  | 3 => ("SemaphoreBay$Line", "routes", "[LSemaphoreBay$Route;", true)
  | 4 => ("SemaphoreBay$Line", "routeCount", "I", false)
  | 5 => ("SemaphoreBay$Line", "trains", "[LSemaphoreBay$Train;", true)
  | 6 => ("SemaphoreBay$Line", "trainCount", "I", false)
  | 7 => ("SemaphoreBay$Line", "order", "I", false)
  | 8 => ("SemaphoreBay$Line", "stay", "I", false)
  | _ => ("SemaphoreBay$Line", "clock", "I", false)
def tyX1 : Nat → FieldType := fun k => match k with
  | 0 => .array .int
  | 1 => .array (.object "SemaphoreBay$Block")
  | 2 => .int
  | 3 => .array (.object "SemaphoreBay$Route")
  | 4 => .int
  | 5 => .array (.object "SemaphoreBay$Train")
  | 6 => .int
  | 7 => .int
  | 8 => .int
  | _ => .int
abbrev wsX10 : List Cond := u_ws RX1 TX1 10
theorem nmX1 : ∀ a, a < 10 → ∀ b, b < 10 → a ≠ b → (TX1 a).2.1 ≠ (TX1 b).2.1 := by decide +kernel
theorem tyX1_ok : ∀ k, k < 10 → parseFieldDescriptor (TX1 k).2.2.1 = some (tyX1 k) := by decide +kernel
abbrev cX1_init : ByteArray := prog_3_method_1_code
def yX1_init : MethodName := ⟨RX1, "<init>", "()V"⟩
abbrev cX1_takeFrom : ByteArray := prog_3_method_2_code
def yX1_takeFrom : MethodName := ⟨RX1, "takeFrom", "(LSemaphoreBay$Line;)V"⟩
abbrev cX1_passTicks : ByteArray := prog_3_method_3_code
def yX1_passTicks : MethodName := ⟨RX1, "passTicks", "(I)V"⟩
abbrev cX1_forgetWhoWaits : ByteArray := prog_3_method_4_code
def yX1_forgetWhoWaits : MethodName := ⟨RX1, "forgetWhoWaits", "()V"⟩
abbrev cX1_roll : ByteArray := prog_3_method_5_code
def yX1_roll : MethodName := ⟨RX1, "roll", "(I)V"⟩
abbrev cX1_comeToStation : ByteArray := prog_3_method_6_code
def yX1_comeToStation : MethodName := ⟨RX1, "comeToStation", "(LSemaphoreBay$Train;)V"⟩
abbrev cX1_leaveBlock : ByteArray := prog_3_method_7_code
def yX1_leaveBlock : MethodName := ⟨RX1, "leaveBlock", "(LSemaphoreBay$Train;)V"⟩
abbrev cX1_enter : ByteArray := prog_3_method_8_code
def yX1_enter : MethodName := ⟨RX1, "enter", "(III)V"⟩
abbrev cX1_giveTurns : ByteArray := prog_3_method_9_code
def yX1_giveTurns : MethodName := ⟨RX1, "giveTurns", "()V"⟩
abbrev cX1_firstReady : ByteArray := prog_3_method_10_code
def yX1_firstReady : MethodName := ⟨RX1, "firstReady", "(I)I"⟩
abbrev cX1_goesAhead : ByteArray := prog_3_method_11_code
def yX1_goesAhead : MethodName := ⟨RX1, "goesAhead", "(LSemaphoreBay$Train;LSemaphoreBay$Train;)Z"⟩
abbrev cX1_takeTurn : ByteArray := prog_3_method_12_code
def yX1_takeTurn : MethodName := ⟨RX1, "takeTurn", "(I)V"⟩
abbrev cX1_leadsOn : ByteArray := prog_3_method_13_code
def yX1_leadsOn : MethodName := ⟨RX1, "leadsOn", "(LSemaphoreBay$Route;LSemaphoreBay$Train;)Z"⟩
abbrev cX1_setOut : ByteArray := prog_3_method_14_code
def yX1_setOut : MethodName := ⟨RX1, "setOut", "(II)V"⟩
abbrev cX1_lockRest : ByteArray := prog_3_method_15_code
def yX1_lockRest : MethodName := ⟨RX1, "lockRest", "(ILSemaphoreBay$Route;)V"⟩
abbrev cX1_blameOn : ByteArray := prog_3_method_16_code
def yX1_blameOn : MethodName := ⟨RX1, "blameOn", "(LSemaphoreBay$Route;I)I"⟩
abbrev cX1_firstNotClear : ByteArray := prog_3_method_17_code
def yX1_firstNotClear : MethodName := ⟨RX1, "firstNotClear", "(LSemaphoreBay$Route;I)I"⟩
abbrev cX1_isReady : ByteArray := prog_3_method_18_code
def yX1_isReady : MethodName := ⟨RX1, "isReady", "(LSemaphoreBay$Train;)Z"⟩
abbrev cX1_isOpenFor : ByteArray := prog_3_method_19_code
def yX1_isOpenFor : MethodName := ⟨RX1, "isOpenFor", "(LSemaphoreBay$Route;I)Z"⟩
abbrev cX1_isClearFor : ByteArray := prog_3_method_20_code
def yX1_isClearFor : MethodName := ⟨RX1, "isClearFor", "(II)Z"⟩
abbrev cX1_trainInTheWay : ByteArray := prog_3_method_21_code
def yX1_trainInTheWay : MethodName := ⟨RX1, "trainInTheWay", "(II)I"⟩
abbrev cX1_hasRoom : ByteArray := prog_3_method_22_code
def yX1_hasRoom : MethodName := ⟨RX1, "hasRoom", "(I)Z"⟩
abbrev cX1_isInUse : ByteArray := prog_3_method_23_code
def yX1_isInUse : MethodName := ⟨RX1, "isInUse", "(I)Z"⟩
abbrev cX1_waitsForItself : ByteArray := prog_3_method_24_code
def yX1_waitsForItself : MethodName := ⟨RX1, "waitsForItself", "(I)Z"⟩
abbrev cX1_tillOrNone : ByteArray := prog_3_method_25_code
def yX1_tillOrNone : MethodName := ⟨RX1, "tillOrNone", "(I)I"⟩
abbrev cX1_blockUnder : ByteArray := prog_3_method_27_code
def yX1_blockUnder : MethodName := ⟨RX1, "blockUnder", "(LSemaphoreBay$Train;)I"⟩
abbrev cX1_lengthOf : ByteArray := prog_3_method_28_code
def yX1_lengthOf : MethodName := ⟨RX1, "lengthOf", "(LSemaphoreBay$Route;)I"⟩
abbrev cX1_countAt : ByteArray := prog_3_method_29_code
def yX1_countAt : MethodName := ⟨RX1, "countAt", "(I)I"⟩
abbrev cX1_countOnTheWayTo : ByteArray := prog_3_method_30_code
def yX1_countOnTheWayTo : MethodName := ⟨RX1, "countOnTheWayTo", "(I)I"⟩
abbrev cX1_countDone : ByteArray := prog_3_method_31_code
def yX1_countDone : MethodName := ⟨RX1, "countDone", "()I"⟩
abbrev cX1_countAtStations : ByteArray := prog_3_method_32_code
def yX1_countAtStations : MethodName := ⟨RX1, "countAtStations", "()I"⟩
abbrev cX1_countOnBlocks : ByteArray := prog_3_method_33_code
def yX1_countOnBlocks : MethodName := ⟨RX1, "countOnBlocks", "()I"⟩
abbrev cX1_countStuck : ByteArray := prog_3_method_34_code
def yX1_countStuck : MethodName := ⟨RX1, "countStuck", "()I"⟩
def RX2 : String := "SemaphoreBay$Route"
def TX2 : u_T := fun k => match k with
  | 0 => ("SemaphoreBay$Route", "from", "I", false)
  | 1 => ("SemaphoreBay$Route", "to", "I", false)
  | 2 => ("SemaphoreBay$Route", "isWhole", "Z", false)
  | 3 => ("SemaphoreBay$Route", "count", "I", false)
  | _ => ("SemaphoreBay$Route", "blocks", "[I", true)
def tyX2 : Nat → FieldType := fun k => match k with
  | 0 => .int
  | 1 => .int
  | 2 => .boolean
  | 3 => .int
  | _ => .array .int
abbrev wsX20 : List Cond := u_ws RX2 TX2 5
theorem nmX2 : ∀ a, a < 5 → ∀ b, b < 5 → a ≠ b → (TX2 a).2.1 ≠ (TX2 b).2.1 := by decide +kernel
theorem tyX2_ok : ∀ k, k < 5 → parseFieldDescriptor (TX2 k).2.2.1 = some (tyX2 k) := by decide +kernel
abbrev cX2_init : ByteArray := prog_4_method_1_code
def yX2_init : MethodName := ⟨RX2, "<init>", "()V"⟩
abbrev cX2_lay : ByteArray := prog_4_method_2_code
def yX2_lay : MethodName := ⟨RX2, "lay", "(IIZ)V"⟩
abbrev cX2_takeFrom : ByteArray := prog_4_method_3_code
def yX2_takeFrom : MethodName := ⟨RX2, "takeFrom", "(LSemaphoreBay$Route;)V"⟩
abbrev cX2_addBlock : ByteArray := prog_4_method_4_code
def yX2_addBlock : MethodName := ⟨RX2, "addBlock", "(I)V"⟩
abbrev cX2_blockAt : ByteArray := prog_4_method_5_code
def yX2_blockAt : MethodName := ⟨RX2, "blockAt", "(I)I"⟩
abbrev cX2_hasBlock : ByteArray := prog_4_method_6_code
def yX2_hasBlock : MethodName := ⟨RX2, "hasBlock", "(I)Z"⟩
abbrev cX2_joins : ByteArray := prog_4_method_7_code
def yX2_joins : MethodName := ⟨RX2, "joins", "(II)Z"⟩
abbrev cX2_countToBeClear : ByteArray := prog_4_method_8_code
def yX2_countToBeClear : MethodName := ⟨RX2, "countToBeClear", "()I"⟩
def RX3 : String := "SemaphoreBay$Train"
def TX3 : u_T := fun k => match k with
  | 0 => ("SemaphoreBay$Train", "rank", "I", false)
  | 1 => ("SemaphoreBay$Train", "pace", "I", false)
  | 2 => ("SemaphoreBay$Train", "stops", "I", false)
  | 3 => ("SemaphoreBay$Train", "stations", "[I", true)
  | 4 => ("SemaphoreBay$Train", "times", "[I", true)
  | 5 => ("SemaphoreBay$Train", "lastStop", "I", false)
  | 6 => ("SemaphoreBay$Train", "station", "I", false)
  | 7 => ("SemaphoreBay$Train", "cameAt", "I", false)
  | 8 => ("SemaphoreBay$Train", "route", "I", false)
  | 9 => ("SemaphoreBay$Train", "place", "I", false)
  | 10 => ("SemaphoreBay$Train", "left", "I", false)
  | 11 => ("SemaphoreBay$Train", "heldBackTill", "I", false)
  | 12 => ("SemaphoreBay$Train", "late", "I", false)
  | 13 => ("SemaphoreBay$Train", "waited", "I", false)
  | 14 => ("SemaphoreBay$Train", "waitsFor", "I", false)
  | _ => ("SemaphoreBay$Train", "waitedFor", "[I", true)
def tyX3 : Nat → FieldType := fun k => match k with
  | 0 => .int
  | 1 => .int
  | 2 => .int
  | 3 => .array .int
  | 4 => .array .int
  | 5 => .int
  | 6 => .int
  | 7 => .int
  | 8 => .int
  | 9 => .int
  | 10 => .int
  | 11 => .int
  | 12 => .int
  | 13 => .int
  | 14 => .int
  | _ => .array .int
abbrev wsX30 : List Cond := u_ws RX3 TX3 16
theorem nmX3 : ∀ a, a < 16 → ∀ b, b < 16 → a ≠ b → (TX3 a).2.1 ≠ (TX3 b).2.1 := by decide +kernel
theorem tyX3_ok : ∀ k, k < 16 → parseFieldDescriptor (TX3 k).2.2.1 = some (tyX3 k) := by decide +kernel
abbrev cX3_init : ByteArray := prog_5_method_1_code
def yX3_init : MethodName := ⟨RX3, "<init>", "()V"⟩
abbrev cX3_takeFrom : ByteArray := prog_5_method_2_code
def yX3_takeFrom : MethodName := ⟨RX3, "takeFrom", "(LSemaphoreBay$Train;)V"⟩
abbrev cX3_addStop : ByteArray := prog_5_method_3_code
def yX3_addStop : MethodName := ⟨RX3, "addStop", "(II)V"⟩
abbrev cX3_stationOf : ByteArray := prog_5_method_4_code
def yX3_stationOf : MethodName := ⟨RX3, "stationOf", "(I)I"⟩
abbrev cX3_timeOf : ByteArray := prog_5_method_5_code
def yX3_timeOf : MethodName := ⟨RX3, "timeOf", "(I)I"⟩
abbrev cX3_isOnBlock : ByteArray := prog_5_method_6_code
def yX3_isOnBlock : MethodName := ⟨RX3, "isOnBlock", "()Z"⟩
abbrev cX3_isAtEndOfBlock : ByteArray := prog_5_method_7_code
def yX3_isAtEndOfBlock : MethodName := ⟨RX3, "isAtEndOfBlock", "()Z"⟩
abbrev cX3_isAtStation : ByteArray := prog_5_method_8_code
def yX3_isAtStation : MethodName := ⟨RX3, "isAtStation", "()Z"⟩
abbrev cX3_isDone : ByteArray := prog_5_method_9_code
def yX3_isDone : MethodName := ⟨RX3, "isDone", "()Z"⟩
abbrev cX3_isAtLastStop : ByteArray := prog_5_method_10_code
def yX3_isAtLastStop : MethodName := ⟨RX3, "isAtLastStop", "()Z"⟩
abbrev cX3_beLate : ByteArray := prog_5_method_11_code
def yX3_beLate : MethodName := ⟨RX3, "beLate", "(I)V"⟩
abbrev cX3_waitOneTick : ByteArray := prog_5_method_12_code
def yX3_waitOneTick : MethodName := ⟨RX3, "waitOneTick", "(I)V"⟩
def RX4 : String := "SemaphoreBay"
def TX4 : u_T := fun k => match k with
  | 0 => ("SemaphoreBay", "line", "LSemaphoreBay$Line;", true)
  | _ => ("SemaphoreBay", "trial", "LSemaphoreBay$Line;", true)
def tyX4 : Nat → FieldType := fun k => match k with
  | 0 => .object "SemaphoreBay$Line"
  | _ => .object "SemaphoreBay$Line"
abbrev wsX40 : List Cond := u_ws RX4 TX4 2
theorem nmX4 : ∀ a, a < 2 → ∀ b, b < 2 → a ≠ b → (TX4 a).2.1 ≠ (TX4 b).2.1 := by decide +kernel
theorem tyX4_ok : ∀ k, k < 2 → parseFieldDescriptor (TX4 k).2.2.1 = some (tyX4 k) := by decide +kernel
abbrev cX4_init : ByteArray := prog_1_method_1_code
def yX4_init : MethodName := ⟨RX4, "<init>", "()V"⟩
abbrev cX4_block : ByteArray := prog_1_method_3_code
def yX4_block : MethodName := ⟨RX4, "block", "(I)I"⟩
abbrev cX4_route : ByteArray := prog_1_method_4_code
def yX4_route : MethodName := ⟨RX4, "route", "(IIIZ)I"⟩
abbrev cX4_over : ByteArray := prog_1_method_5_code
def yX4_over : MethodName := ⟨RX4, "over", "(II)I"⟩
abbrev cX4_order : ByteArray := prog_1_method_7_code
def yX4_order : MethodName := ⟨RX4, "order", "(II)I"⟩
abbrev cX4_train : ByteArray := prog_1_method_8_code
def yX4_train : MethodName := ⟨RX4, "train", "(IIII)I"⟩
abbrev cX4_stop : ByteArray := prog_1_method_9_code
def yX4_stop : MethodName := ⟨RX4, "stop", "(III)I"⟩
abbrev cX4_tick : ByteArray := prog_1_method_12_code
def yX4_tick : MethodName := ⟨RX4, "tick", "(I)I"⟩
abbrev cX4_clock : ByteArray := prog_1_method_13_code
def yX4_clock : MethodName := ⟨RX4, "clock", "()I"⟩
abbrev cX4_many : ByteArray := prog_1_method_14_code
def yX4_many : MethodName := ⟨RX4, "many", "(I)I"⟩
abbrev cX4_station : ByteArray := prog_1_method_15_code
def yX4_station : MethodName := ⟨RX4, "station", "(II)I"⟩
abbrev cX4_ofBlock : ByteArray := prog_1_method_16_code
def yX4_ofBlock : MethodName := ⟨RX4, "ofBlock", "(II)I"⟩
abbrev cX4_onRoute : ByteArray := prog_1_method_17_code
def yX4_onRoute : MethodName := ⟨RX4, "onRoute", "(II)I"⟩
abbrev cX4_ofRoute : ByteArray := prog_1_method_18_code
def yX4_ofRoute : MethodName := ⟨RX4, "ofRoute", "(II)I"⟩
abbrev cX4_ofTrain : ByteArray := prog_1_method_19_code
def yX4_ofTrain : MethodName := ⟨RX4, "ofTrain", "(II)I"⟩
abbrev cX4_plan : ByteArray := prog_1_method_20_code
def yX4_plan : MethodName := ⟨RX4, "plan", "(IIZ)I"⟩
abbrev cX4_waitedFor : ByteArray := prog_1_method_21_code
def yX4_waitedFor : MethodName := ⟨RX4, "waitedFor", "(II)I"⟩
abbrev cX4_waitsFor : ByteArray := prog_1_method_22_code
def yX4_waitsFor : MethodName := ⟨RX4, "waitsFor", "(I)I"⟩
abbrev cX4_isStuck : ByteArray := prog_1_method_23_code
def yX4_isStuck : MethodName := ⟨RX4, "isStuck", "(I)Z"⟩
abbrev cX4_doneIn : ByteArray := prog_1_method_26_code
def yX4_doneIn : MethodName := ⟨RX4, "doneIn", "(II)I"⟩
abbrev cX4_stuckIn : ByteArray := prog_1_method_29_code
def yX4_stuckIn : MethodName := ⟨RX4, "stuckIn", "(I)I"⟩
abbrev cX4_digest : ByteArray := prog_1_method_30_code
def yX4_digest : MethodName := ⟨RX4, "digest", "()J"⟩
abbrev cX4_mixedWithTrain : ByteArray := prog_1_method_31_code
def yX4_mixedWithTrain : MethodName := ⟨RX4, "mixedWithTrain", "(JI)J"⟩
abbrev cX4_mixed : ByteArray := prog_1_method_32_code
def yX4_mixed : MethodName := ⟨RX4, "mixed", "(JI)J"⟩
abbrev cX4_oneIf : ByteArray := prog_1_method_33_code
def yX4_oneIf : MethodName := ⟨RX4, "oneIf", "(Z)I"⟩
abbrev cX4_needStation : ByteArray := prog_1_method_34_code
def yX4_needStation : MethodName := ⟨RX4, "needStation", "(I)V"⟩
abbrev cX4_needBlock : ByteArray := prog_1_method_35_code
def yX4_needBlock : MethodName := ⟨RX4, "needBlock", "(I)V"⟩
abbrev cX4_needRoute : ByteArray := prog_1_method_36_code
def yX4_needRoute : MethodName := ⟨RX4, "needRoute", "(I)V"⟩
abbrev cX4_needTrain : ByteArray := prog_1_method_37_code
def yX4_needTrain : MethodName := ⟨RX4, "needTrain", "(I)V"⟩
abbrev cX4_needNumber : ByteArray := prog_1_method_38_code
def yX4_needNumber : MethodName := ⟨RX4, "needNumber", "(II)V"⟩
abbrev cX4_needWithin : ByteArray := prog_1_method_39_code
def yX4_needWithin : MethodName := ⟨RX4, "needWithin", "(III)V"⟩
def RX5 : String := "SemaphoreBayModel$Bay"
def TX5 : u_T := fun k => match k with
  | _ => ("", "", "", false)
def tyX5 : Nat → FieldType := fun k => match k with
  | _ => .int
abbrev wsX50 : List Cond := u_ws RX5 TX5 0
theorem nmX5 : ∀ a, a < 0 → ∀ b, b < 0 → a ≠ b → (TX5 a).2.1 ≠ (TX5 b).2.1 := by decide +kernel
theorem tyX5_ok : ∀ k, k < 0 → parseFieldDescriptor (TX5 k).2.2.1 = some (tyX5 k) := by decide +kernel
def RX6 : String := "SemaphoreBayModel$Block"
def TX6 : u_T := fun k => match k with
  | _ => ("", "", "", false)
def tyX6 : Nat → FieldType := fun k => match k with
  | _ => .int
abbrev wsX60 : List Cond := u_ws RX6 TX6 0
theorem nmX6 : ∀ a, a < 0 → ∀ b, b < 0 → a ≠ b → (TX6 a).2.1 ≠ (TX6 b).2.1 := by decide +kernel
theorem tyX6_ok : ∀ k, k < 0 → parseFieldDescriptor (TX6 k).2.2.1 = some (tyX6 k) := by decide +kernel
def RX7 : String := "SemaphoreBayModel$Route"
def TX7 : u_T := fun k => match k with
  | _ => ("", "", "", false)
def tyX7 : Nat → FieldType := fun k => match k with
  | _ => .int
abbrev wsX70 : List Cond := u_ws RX7 TX7 0
theorem nmX7 : ∀ a, a < 0 → ∀ b, b < 0 → a ≠ b → (TX7 a).2.1 ≠ (TX7 b).2.1 := by decide +kernel
theorem tyX7_ok : ∀ k, k < 0 → parseFieldDescriptor (TX7 k).2.2.1 = some (tyX7 k) := by decide +kernel
def RX8 : String := "SemaphoreBayModel$Train"
def TX8 : u_T := fun k => match k with
  | _ => ("", "", "", false)
def tyX8 : Nat → FieldType := fun k => match k with
  | _ => .int
abbrev wsX80 : List Cond := u_ws RX8 TX8 0
theorem nmX8 : ∀ a, a < 0 → ∀ b, b < 0 → a ≠ b → (TX8 a).2.1 ≠ (TX8 b).2.1 := by decide +kernel
theorem tyX8_ok : ∀ k, k < 0 → parseFieldDescriptor (TX8 k).2.2.1 = some (tyX8 k) := by decide +kernel
def RX9 : String := "SemaphoreBayModel"
def TX9 : u_T := fun k => match k with
  | _ => ("", "", "", false)
def tyX9 : Nat → FieldType := fun k => match k with
  | _ => .int
abbrev wsX90 : List Cond := u_ws RX9 TX9 0
theorem nmX9 : ∀ a, a < 0 → ∀ b, b < 0 → a ≠ b → (TX9 a).2.1 ≠ (TX9 b).2.1 := by decide +kernel
theorem tyX9_ok : ∀ k, k < 0 → parseFieldDescriptor (TX9 k).2.2.1 = some (tyX9 k) := by decide +kernel
def RJx145de : String := "java/io/Serializable"
def RJ9 : String := "java/lang/Math"
abbrev cJ9_max_7cf53 : ByteArray := prog_16_method_65_code
def yJ9_max_7cf53 : MethodName := ⟨RJ9, "max", "(II)I"⟩
def RJ0 : String := "java/lang/String"
def RJ10 : String := "java/lang/System"
def RL : String := "SemaphoreBayLaw"
abbrev cL_below : ByteArray := method_2_code
def yL_below : MethodName := ⟨RL, "below", "(II)I"⟩
abbrev cL_cell : ByteArray := method_3_code
def yL_cell : MethodName := ⟨RL, "cell", "([II)I"⟩
abbrev cL_law : ByteArray := code
def yL_law : MethodName := ⟨RL, "law", "([I)Z"⟩
abbrev vwCl : List vw_C := [(RX0, TX0, 4), (RX1, TX1, 10), (RX2, TX2, 5), (RX3, TX3, 16), (RX4, TX4, 2)]
def gG1 : List Cond := [Cond.classLink RL 9 RX4, Cond.instantiable RX4 2, Cond.initialized RX4, Cond.arrayClass .int, Cond.methodLink RL 11 yX4_init, Cond.instanceMethod yX4_init, Cond.code yX4_init cX4_init 1 none, Cond.methodLink RX4 1 objectInit, Cond.instanceMethod objectInit, Cond.code objectInit ⟨#[0xb1]⟩ 1 none, Cond.classLink RX4 7 RX1, Cond.instantiable RX1 10, Cond.initialized RX1, Cond.fieldLink RX4 10 "SemaphoreBay" "line" "LSemaphoreBay$Line;", Cond.fieldLink RX4 16 "SemaphoreBay" "trial" "LSemaphoreBay$Line;", Cond.methodLink RX4 9 yX1_init, Cond.instanceMethod yX1_init, Cond.code yX1_init cX1_init 2 none, Cond.methodLink RX1 3 objectInit, Cond.fieldLink RX1 9 "SemaphoreBay$Line" "platforms" "[I", Cond.classLink RX1 15 RX0, Cond.fieldLink RX1 17 "SemaphoreBay$Line" "blocks" "[LSemaphoreBay$Block;", Cond.classLink RX1 21 RX2, Cond.fieldLink RX1 23 "SemaphoreBay$Line" "routes" "[LSemaphoreBay$Route;"]
def gG2 : List Cond := [Cond.classLink RX1 27 RX3, Cond.fieldLink RX1 29 "SemaphoreBay$Line" "trains" "[LSemaphoreBay$Train;", Cond.fieldLink RX1 33 "SemaphoreBay$Line" "stay" "I", Cond.instantiable RX0 4, Cond.initialized RX0, Cond.instantiable RX2 5, Cond.initialized RX2, Cond.instantiable RX3 16, Cond.initialized RX3, Cond.instanceMethod yX0_init, Cond.code yX0_init cX0_init 1 none, Cond.methodLink RX0 3 objectInit, Cond.fieldLink RX0 9 "SemaphoreBay$Block" "heldBy" "I", Cond.fieldLink RX0 15 "SemaphoreBay$Block" "lockedFor" "I", Cond.instanceMethod yX2_init, Cond.code yX2_init cX2_init 1 none, Cond.methodLink RX2 3 objectInit, Cond.fieldLink RX2 9 "SemaphoreBay$Route" "blocks" "[I", Cond.instanceMethod yX3_init, Cond.code yX3_init cX3_init 1 none, Cond.methodLink RX3 3 objectInit, Cond.fieldLink RX3 9 "SemaphoreBay$Train" "stations" "[I", Cond.fieldLink RX3 15 "SemaphoreBay$Train" "times" "[I", Cond.fieldLink RX3 18 "SemaphoreBay$Train" "station" "I"]
def gG3 : List Cond := [Cond.fieldLink RX3 22 "SemaphoreBay$Train" "route" "I", Cond.fieldLink RX3 25 "SemaphoreBay$Train" "waitsFor" "I", Cond.fieldLink RX3 28 "SemaphoreBay$Train" "waitedFor" "[I", Cond.methodLink RL 12 yL_cell, Cond.static yL_cell, Cond.initialized RL, Cond.code yL_cell cL_cell 2 (some .int), Cond.constant RL 8 (790386105), Cond.methodLink RL 18 yL_below, Cond.static yL_below, Cond.code yL_below cL_below 2 (some .int), Cond.constant RL 7 (2147483647), Cond.methodLink RL 22 yX4_block, Cond.instanceMethod yX4_block, Cond.selects RX4 yX4_block yX4_block, Cond.code yX4_block cX4_block 3 (some .int), Cond.classLink RX4 35 "java/lang/IllegalStateException", Cond.initialized "java/lang/IllegalStateException", Cond.fieldLink RX4 31 "SemaphoreBay$Line" "blockCount" "I", Cond.fieldLink RX4 42 "SemaphoreBay$Line" "blocks" "[LSemaphoreBay$Block;", Cond.fieldLink RX4 46 "SemaphoreBay$Block" "length" "I", Cond.methodLink RX4 23 yX4_needWithin, Cond.static yX4_needWithin, Cond.code yX4_needWithin cX4_needWithin 3 none]
def gG4 : List Cond := [Cond.classLink RX4 54 "java/lang/IllegalArgumentException", Cond.initialized "java/lang/IllegalArgumentException", Cond.methodLink RL 26 yX4_route, Cond.instanceMethod yX4_route, Cond.selects RX4 yX4_route yX4_route, Cond.code yX4_route cX4_route 6 (some .int), Cond.fieldLink RX4 59 "SemaphoreBay$Line" "routeCount" "I", Cond.fieldLink RX4 64 "SemaphoreBay$Line" "routes" "[LSemaphoreBay$Route;", Cond.methodLink RX4 19 yX4_needStation, Cond.static yX4_needStation, Cond.code yX4_needStation cX4_needStation 1 none, Cond.methodLink RX4 194 yX4_needNumber, Cond.static yX4_needNumber, Cond.code yX4_needNumber cX4_needNumber 2 none, Cond.classLink RX4 299 "java/lang/IndexOutOfBoundsException", Cond.initialized "java/lang/IndexOutOfBoundsException", Cond.methodLink RX4 51 yX4_needBlock, Cond.instanceMethod yX4_needBlock, Cond.selects RX4 yX4_needBlock yX4_needBlock, Cond.code yX4_needBlock cX4_needBlock 2 none, Cond.methodLink RX4 68 yX2_lay, Cond.instanceMethod yX2_lay, Cond.selects RX2 yX2_lay yX2_lay, Cond.code yX2_lay cX2_lay 4 none]
def gG5 : List Cond := [Cond.fieldLink RX2 15 "SemaphoreBay$Route" "from" "I", Cond.fieldLink RX2 19 "SemaphoreBay$Route" "to" "I", Cond.fieldLink RX2 22 "SemaphoreBay$Route" "isWhole" "Z", Cond.fieldLink RX2 26 "SemaphoreBay$Route" "count" "I", Cond.methodLink RX4 74 yX2_addBlock, Cond.instanceMethod yX2_addBlock, Cond.selects RX2 yX2_addBlock yX2_addBlock, Cond.code yX2_addBlock cX2_addBlock 2 none, Cond.methodLink RL 30 yX4_ofRoute, Cond.instanceMethod yX4_ofRoute, Cond.selects RX4 yX4_ofRoute yX4_ofRoute, Cond.code yX4_ofRoute cX4_ofRoute 4 (some .int), Cond.fieldLink RX4 200 "SemaphoreBay$Route" "from" "I", Cond.fieldLink RX4 203 "SemaphoreBay$Route" "to" "I", Cond.fieldLink RX4 86 "SemaphoreBay$Route" "count" "I", Cond.fieldLink RX4 206 "SemaphoreBay$Route" "isWhole" "Z", Cond.methodLink RX4 77 yX4_needRoute, Cond.instanceMethod yX4_needRoute, Cond.selects RX4 yX4_needRoute yX4_needRoute, Cond.code yX4_needRoute cX4_needRoute 2 none, Cond.methodLink RX4 210 yX4_oneIf, Cond.static yX4_oneIf, Cond.code yX4_oneIf cX4_oneIf 1 (some .int), Cond.methodLink RX4 214 yX1_lengthOf]
def gG6 : List Cond := [Cond.instanceMethod yX1_lengthOf, Cond.selects RX1 yX1_lengthOf yX1_lengthOf, Cond.code yX1_lengthOf cX1_lengthOf 5 (some .int), Cond.fieldLink RX1 97 "SemaphoreBay$Route" "count" "I", Cond.fieldLink RX1 46 "SemaphoreBay$Line" "blockCount" "I", Cond.fieldLink RX1 150 "SemaphoreBay$Block" "length" "I", Cond.methodLink RX1 103 yX2_blockAt, Cond.instanceMethod yX2_blockAt, Cond.selects RX2 yX2_blockAt yX2_blockAt, Cond.code yX2_blockAt cX2_blockAt 2 (some .int), Cond.methodLink RL 33 yX4_onRoute, Cond.instanceMethod yX4_onRoute, Cond.selects RX4 yX4_onRoute yX4_onRoute, Cond.code yX4_onRoute cX4_onRoute 3 (some .int), Cond.methodLink RX4 197 yX2_blockAt, Cond.methodLink RL 36 yX4_over, Cond.instanceMethod yX4_over, Cond.selects RX4 yX4_over yX4_over, Cond.code yX4_over cX4_over 4 (some .int), Cond.methodLink RX4 80 yX2_hasBlock, Cond.instanceMethod yX2_hasBlock, Cond.selects RX2 yX2_hasBlock yX2_hasBlock, Cond.code yX2_hasBlock cX2_hasBlock 3 (some .boolean), Cond.methodLink RX2 33 yX2_blockAt]
def gG7 : List Cond := [Cond.methodLink RX4 89 yX1_isInUse, Cond.instanceMethod yX1_isInUse, Cond.selects RX1 yX1_isInUse yX1_isInUse, Cond.code yX1_isInUse cX1_isInUse 3 (some .boolean), Cond.fieldLink RX1 59 "SemaphoreBay$Line" "trainCount" "I", Cond.fieldLink RX1 91 "SemaphoreBay$Train" "route" "I", Cond.methodLink RL 39 yX4_station, Cond.instanceMethod yX4_station, Cond.selects RX4 yX4_station yX4_station, Cond.code yX4_station cX4_station 3 (some .int), Cond.fieldLink RX4 27 "SemaphoreBay$Line" "platforms" "[I", Cond.methodLink RX4 182 yX1_countAt, Cond.instanceMethod yX1_countAt, Cond.selects RX1 yX1_countAt yX1_countAt, Cond.code yX1_countAt cX1_countAt 4 (some .int), Cond.fieldLink RX1 140 "SemaphoreBay$Train" "station" "I", Cond.methodLink RX4 185 yX1_countOnTheWayTo, Cond.instanceMethod yX1_countOnTheWayTo, Cond.selects RX1 yX1_countOnTheWayTo yX1_countOnTheWayTo, Cond.code yX1_countOnTheWayTo cX1_countOnTheWayTo 5 (some .int), Cond.fieldLink RX1 53 "SemaphoreBay$Line" "routeCount" "I", Cond.fieldLink RX1 219 "SemaphoreBay$Route" "to" "I", Cond.methodLink RL 42 yX4_train, Cond.instanceMethod yX4_train]
def gG8 : List Cond := [Cond.selects RX4 yX4_train yX4_train, Cond.code yX4_train cX4_train 7 (some .int), Cond.fieldLink RX4 111 "SemaphoreBay$Line" "trainCount" "I", Cond.fieldLink RX4 119 "SemaphoreBay$Line" "trains" "[LSemaphoreBay$Train;", Cond.fieldLink RX4 123 "SemaphoreBay$Train" "rank" "I", Cond.fieldLink RX4 128 "SemaphoreBay$Train" "pace" "I", Cond.fieldLink RX4 131 "SemaphoreBay$Train" "station" "I", Cond.fieldLink RX4 134 "SemaphoreBay$Line" "clock" "I", Cond.fieldLink RX4 137 "SemaphoreBay$Train" "cameAt" "I", Cond.methodLink RX4 114 yX1_hasRoom, Cond.instanceMethod yX1_hasRoom, Cond.selects RX1 yX1_hasRoom yX1_hasRoom, Cond.code yX1_hasRoom cX1_hasRoom 2 (some .boolean), Cond.methodLink RX1 229 yX1_countAt, Cond.methodLink RX1 232 yX1_countOnTheWayTo, Cond.methodLink RX4 140 yX3_addStop, Cond.instanceMethod yX3_addStop, Cond.selects RX3 yX3_addStop yX3_addStop, Cond.code yX3_addStop cX3_addStop 3 none, Cond.fieldLink RX3 37 "SemaphoreBay$Train" "stops" "I", Cond.methodLink RL 46 yX4_plan, Cond.instanceMethod yX4_plan, Cond.selects RX4 yX4_plan yX4_plan, Cond.code yX4_plan cX4_plan 5 (some .int)]
def gG9 : List Cond := [Cond.fieldLink RX4 146 "SemaphoreBay$Train" "stops" "I", Cond.methodLink RX4 143 yX4_needTrain, Cond.instanceMethod yX4_needTrain, Cond.selects RX4 yX4_needTrain yX4_needTrain, Cond.code yX4_needTrain cX4_needTrain 2 none, Cond.methodLink RX4 149 yX3_timeOf, Cond.instanceMethod yX3_timeOf, Cond.selects RX3 yX3_timeOf yX3_timeOf, Cond.code yX3_timeOf cX3_timeOf 2 (some .int), Cond.methodLink RX4 152 yX3_stationOf, Cond.instanceMethod yX3_stationOf, Cond.selects RX3 yX3_stationOf yX3_stationOf, Cond.code yX3_stationOf cX3_stationOf 2 (some .int), Cond.methodLink RL 50 yX4_stop, Cond.instanceMethod yX4_stop, Cond.selects RX4 yX4_stop yX4_stop, Cond.code yX4_stop cX4_stop 6 (some .int), Cond.methodLink RX4 157 yX3_isDone, Cond.instanceMethod yX3_isDone, Cond.selects RX3 yX3_isDone yX3_isDone, Cond.code yX3_isDone cX3_isDone 1 (some .boolean), Cond.methodLink RL 54 yX4_order, Cond.instanceMethod yX4_order, Cond.selects RX4 yX4_order yX4_order]
def gG10 : List Cond := [Cond.code yX4_order cX4_order 4 (some .int), Cond.fieldLink RX4 105 "SemaphoreBay$Line" "order" "I", Cond.fieldLink RX4 108 "SemaphoreBay$Line" "stay" "I", Cond.methodLink RL 57 yX4_digest, Cond.instanceMethod yX4_digest, Cond.selects RX4 yX4_digest yX4_digest, Cond.code yX4_digest cX4_digest 5 (some .long), Cond.constantLong RX4 267 (58091), Cond.methodLink RX4 269 yX4_clock, Cond.instanceMethod yX4_clock, Cond.selects RX4 yX4_clock yX4_clock, Cond.code yX4_clock cX4_clock 1 (some .int), Cond.methodLink RX4 271 yX4_mixed, Cond.static yX4_mixed, Cond.code yX4_mixed cX4_mixed 3 (some .long), Cond.constantLong RX4 297 (31), Cond.methodLink RX4 275 yX4_many, Cond.instanceMethod yX4_many, Cond.selects RX4 yX4_many yX4_many, Cond.code yX4_many cX4_many 2 (some .int), Cond.methodLink RX4 169 yX1_countDone, Cond.instanceMethod yX1_countDone, Cond.selects RX1 yX1_countDone yX1_countDone, Cond.code yX1_countDone cX1_countDone 3 (some .int)]
def gG11 : List Cond := [Cond.methodLink RX1 235 yX3_isDone, Cond.methodLink RX4 173 yX1_countAtStations, Cond.instanceMethod yX1_countAtStations, Cond.selects RX1 yX1_countAtStations yX1_countAtStations, Cond.code yX1_countAtStations cX1_countAtStations 3 (some .int), Cond.methodLink RX1 213 yX3_isAtStation, Cond.instanceMethod yX3_isAtStation, Cond.selects RX3 yX3_isAtStation yX3_isAtStation, Cond.code yX3_isAtStation cX3_isAtStation 1 (some .boolean), Cond.methodLink RX4 176 yX1_countOnBlocks, Cond.instanceMethod yX1_countOnBlocks, Cond.selects RX1 yX1_countOnBlocks yX1_countOnBlocks, Cond.code yX1_countOnBlocks cX1_countOnBlocks 3 (some .int), Cond.methodLink RX1 74 yX3_isOnBlock, Cond.instanceMethod yX3_isOnBlock, Cond.selects RX3 yX3_isOnBlock yX3_isOnBlock, Cond.code yX3_isOnBlock cX3_isOnBlock 1 (some .boolean), Cond.methodLink RX4 179 yX1_countStuck, Cond.instanceMethod yX1_countStuck, Cond.selects RX1 yX1_countStuck yX1_countStuck, Cond.code yX1_countStuck cX1_countStuck 3 (some .int), Cond.methodLink RX1 238 yX1_waitsForItself, Cond.instanceMethod yX1_waitsForItself, Cond.selects RX1 yX1_waitsForItself yX1_waitsForItself]
def gG12 : List Cond := [Cond.code yX1_waitsForItself cX1_waitsForItself 4 (some .boolean), Cond.fieldLink RX1 85 "SemaphoreBay$Train" "waitsFor" "I", Cond.methodLink RX4 278 yX4_station, Cond.methodLink RX4 281 yX4_ofBlock, Cond.instanceMethod yX4_ofBlock, Cond.selects RX4 yX4_ofBlock yX4_ofBlock, Cond.code yX4_ofBlock cX4_ofBlock 4 (some .int), Cond.fieldLink RX4 188 "SemaphoreBay$Block" "heldBy" "I", Cond.fieldLink RX4 191 "SemaphoreBay$Block" "lockedFor" "I", Cond.fieldLink RX4 98 "SemaphoreBay$Block" "shutTill" "I", Cond.methodLink RX4 101 yX1_tillOrNone, Cond.instanceMethod yX1_tillOrNone, Cond.selects RX1 yX1_tillOrNone yX1_tillOrNone, Cond.code yX1_tillOrNone cX1_tillOrNone 2 (some .int), Cond.fieldLink RX1 68 "SemaphoreBay$Line" "clock" "I", Cond.methodLink RX4 284 yX4_mixedWithTrain, Cond.instanceMethod yX4_mixedWithTrain, Cond.selects RX4 yX4_mixedWithTrain yX4_mixedWithTrain, Cond.code yX4_mixedWithTrain cX4_mixedWithTrain 7 (some .long), Cond.methodLink RX4 287 yX4_ofTrain, Cond.instanceMethod yX4_ofTrain, Cond.selects RX4 yX4_ofTrain yX4_ofTrain, Cond.code yX4_ofTrain cX4_ofTrain 4 (some .int), Cond.fieldLink RX4 218 "SemaphoreBay$Train" "lastStop" "I"]
def gG13 : List Cond := [Cond.fieldLink RX4 225 "SemaphoreBay$Train" "route" "I", Cond.fieldLink RX4 228 "SemaphoreBay$Train" "left" "I", Cond.fieldLink RX4 231 "SemaphoreBay$Train" "late" "I", Cond.fieldLink RX4 234 "SemaphoreBay$Train" "waited" "I", Cond.fieldLink RX4 163 "SemaphoreBay$Train" "heldBackTill" "I", Cond.methodLink RX4 221 yX1_blockUnder, Cond.instanceMethod yX1_blockUnder, Cond.selects RX1 yX1_blockUnder yX1_blockUnder, Cond.code yX1_blockUnder cX1_blockUnder 3 (some .int), Cond.fieldLink RX1 94 "SemaphoreBay$Train" "place" "I", Cond.methodLink RX4 237 yX1_isReady, Cond.instanceMethod yX1_isReady, Cond.selects RX1 yX1_isReady yX1_isReady, Cond.code yX1_isReady cX1_isReady 2 (some .boolean), Cond.fieldLink RX1 125 "SemaphoreBay$Train" "lastStop" "I", Cond.fieldLink RX1 128 "SemaphoreBay$Train" "cameAt" "I", Cond.fieldLink RX1 216 "SemaphoreBay$Train" "heldBackTill" "I", Cond.methodLink RX1 131 yX3_isAtLastStop, Cond.instanceMethod yX3_isAtLastStop, Cond.selects RX3 yX3_isAtLastStop yX3_isAtLastStop, Cond.code yX3_isAtLastStop cX3_isAtLastStop 1 (some .boolean), Cond.fieldLink RX3 46 "SemaphoreBay$Train" "lastStop" "I", Cond.methodLink RX1 176 yX3_timeOf, Cond.methodLink RX4 241 yX3_isAtEndOfBlock]
def gG14 : List Cond := [Cond.instanceMethod yX3_isAtEndOfBlock, Cond.selects RX3 yX3_isAtEndOfBlock yX3_isAtEndOfBlock, Cond.code yX3_isAtEndOfBlock cX3_isAtEndOfBlock 1 (some .boolean), Cond.fieldLink RX3 55 "SemaphoreBay$Train" "left" "I", Cond.methodLink RX4 290 yX4_waitsFor, Cond.instanceMethod yX4_waitsFor, Cond.selects RX4 yX4_waitsFor yX4_waitsFor, Cond.code yX4_waitsFor cX4_waitsFor 2 (some .int), Cond.fieldLink RX4 247 "SemaphoreBay$Train" "waitsFor" "I", Cond.methodLink RX4 292 yX4_isStuck, Cond.instanceMethod yX4_isStuck, Cond.selects RX4 yX4_isStuck yX4_isStuck, Cond.code yX4_isStuck cX4_isStuck 2 (some .boolean), Cond.methodLink RX4 250 yX1_waitsForItself, Cond.methodLink RX4 295 yX4_waitedFor, Cond.instanceMethod yX4_waitedFor, Cond.selects RX4 yX4_waitedFor yX4_waitedFor, Cond.code yX4_waitedFor cX4_waitedFor 3 (some .int), Cond.fieldLink RX4 244 "SemaphoreBay$Train" "waitedFor" "[I", Cond.methodLink RL 61 yX4_stuckIn, Cond.instanceMethod yX4_stuckIn, Cond.selects RX4 yX4_stuckIn yX4_stuckIn, Cond.code yX4_stuckIn cX4_stuckIn 3 (some .int), Cond.methodLink RX4 260 yX1_takeFrom]
def gG15 : List Cond := [Cond.instanceMethod yX1_takeFrom, Cond.selects RX1 yX1_takeFrom yX1_takeFrom, Cond.code yX1_takeFrom cX1_takeFrom 3 none, Cond.methodLink RX1 40 arraycopyName, Cond.native arraycopyName, Cond.static arraycopyName, Cond.initialized "java/lang/System", Cond.fieldLink RX1 65 "SemaphoreBay$Line" "order" "I", Cond.methodLink RX1 49 yX0_takeFrom, Cond.instanceMethod yX0_takeFrom, Cond.selects RX0 yX0_takeFrom yX0_takeFrom, Cond.code yX0_takeFrom cX0_takeFrom 2 none, Cond.fieldLink RX0 18 "SemaphoreBay$Block" "length" "I", Cond.fieldLink RX0 21 "SemaphoreBay$Block" "shutTill" "I", Cond.methodLink RX1 56 yX2_takeFrom, Cond.instanceMethod yX2_takeFrom, Cond.selects RX2 yX2_takeFrom yX2_takeFrom, Cond.code yX2_takeFrom cX2_takeFrom 3 none, Cond.methodLink RX2 29 yX2_lay, Cond.methodLink RX2 37 yX2_addBlock, Cond.methodLink RX1 62 yX3_takeFrom, Cond.instanceMethod yX3_takeFrom, Cond.selects RX3 yX3_takeFrom yX3_takeFrom, Cond.code yX3_takeFrom cX3_takeFrom 2 none]
def gG16 : List Cond := [Cond.fieldLink RX3 31 "SemaphoreBay$Train" "rank" "I", Cond.fieldLink RX3 34 "SemaphoreBay$Train" "pace" "I", Cond.methodLink RX3 40 arraycopyName, Cond.fieldLink RX3 49 "SemaphoreBay$Train" "cameAt" "I", Cond.fieldLink RX3 52 "SemaphoreBay$Train" "place" "I", Cond.fieldLink RX3 58 "SemaphoreBay$Train" "heldBackTill" "I", Cond.fieldLink RX3 61 "SemaphoreBay$Train" "late" "I", Cond.fieldLink RX3 64 "SemaphoreBay$Train" "waited" "I", Cond.methodLink RX4 166 yX1_passTicks, Cond.instanceMethod yX1_passTicks, Cond.selects RX1 yX1_passTicks yX1_passTicks, Cond.code yX1_passTicks cX1_passTicks 4 none, Cond.methodLink RX1 71 yX1_forgetWhoWaits, Cond.instanceMethod yX1_forgetWhoWaits, Cond.selects RX1 yX1_forgetWhoWaits yX1_forgetWhoWaits, Cond.code yX1_forgetWhoWaits cX1_forgetWhoWaits 2 none, Cond.methodLink RX1 78 yX1_roll, Cond.instanceMethod yX1_roll, Cond.selects RX1 yX1_roll yX1_roll, Cond.code yX1_roll cX1_roll 5 none, Cond.fieldLink RX1 88 "SemaphoreBay$Train" "left" "I", Cond.methodLink RX1 100 yX1_comeToStation, Cond.instanceMethod yX1_comeToStation, Cond.selects RX1 yX1_comeToStation yX1_comeToStation]
def gG17 : List Cond := [Cond.code yX1_comeToStation cX1_comeToStation 2 none, Cond.methodLink RX1 111 yX1_leaveBlock, Cond.instanceMethod yX1_leaveBlock, Cond.selects RX1 yX1_leaveBlock yX1_leaveBlock, Cond.code yX1_leaveBlock cX1_leaveBlock 3 none, Cond.fieldLink RX1 147 "SemaphoreBay$Block" "heldBy" "I", Cond.methodLink RX1 143 yX1_blockUnder, Cond.methodLink RX1 134 yX3_beLate, Cond.instanceMethod yX3_beLate, Cond.selects RX3 yX3_beLate yX3_beLate, Cond.code yX3_beLate cX3_beLate 2 none, Cond.methodLink RX3 71 Lib.Math.max.name, Cond.static Lib.Math.max.name, Cond.initialized "java/lang/Math", Cond.code Lib.Math.max.name Lib.Math.max.code 2 (some .int), Cond.methodLink RX3 67 yX3_timeOf, Cond.methodLink RX1 137 yX3_stationOf, Cond.methodLink RX1 107 yX1_isClearFor, Cond.instanceMethod yX1_isClearFor, Cond.selects RX1 yX1_isClearFor yX1_isClearFor, Cond.code yX1_isClearFor cX1_isClearFor 5 (some .boolean), Cond.fieldLink RX1 156 "SemaphoreBay$Block" "lockedFor" "I", Cond.fieldLink RX1 226 "SemaphoreBay$Block" "shutTill" "I", Cond.methodLink RX1 114 yX1_enter]
def gG18 : List Cond := [Cond.instanceMethod yX1_enter, Cond.selects RX1 yX1_enter yX1_enter, Cond.code yX1_enter cX1_enter 6 none, Cond.fieldLink RX1 153 "SemaphoreBay$Train" "pace" "I", Cond.methodLink RX1 118 yX1_trainInTheWay, Cond.instanceMethod yX1_trainInTheWay, Cond.selects RX1 yX1_trainInTheWay yX1_trainInTheWay, Cond.code yX1_trainInTheWay cX1_trainInTheWay 4 (some .int), Cond.methodLink RX1 122 yX3_waitOneTick, Cond.instanceMethod yX3_waitOneTick, Cond.selects RX3 yX3_waitOneTick yX3_waitOneTick, Cond.code yX3_waitOneTick cX3_waitOneTick 2 none, Cond.methodLink RX1 82 yX1_giveTurns, Cond.instanceMethod yX1_giveTurns, Cond.selects RX1 yX1_giveTurns yX1_giveTurns, Cond.code yX1_giveTurns cX1_giveTurns 4 none, Cond.methodLink RX1 159 yX1_firstReady, Cond.instanceMethod yX1_firstReady, Cond.selects RX1 yX1_firstReady yX1_firstReady, Cond.code yX1_firstReady cX1_firstReady 5 (some .int), Cond.methodLink RX1 165 yX1_isReady, Cond.methodLink RX1 169 yX1_goesAhead, Cond.instanceMethod yX1_goesAhead, Cond.selects RX1 yX1_goesAhead yX1_goesAhead]
def gG19 : List Cond := [Cond.code yX1_goesAhead cX1_goesAhead 3 (some .boolean), Cond.fieldLink RX1 173 "SemaphoreBay$Train" "rank" "I", Cond.methodLink RX1 162 yX1_takeTurn, Cond.instanceMethod yX1_takeTurn, Cond.selects RX1 yX1_takeTurn yX1_takeTurn, Cond.code yX1_takeTurn cX1_takeTurn 4 none, Cond.methodLink RX1 179 yX1_leadsOn, Cond.instanceMethod yX1_leadsOn, Cond.selects RX1 yX1_leadsOn yX1_leadsOn, Cond.code yX1_leadsOn cX1_leadsOn 3 (some .boolean), Cond.methodLink RX1 195 yX2_joins, Cond.instanceMethod yX2_joins, Cond.selects RX2 yX2_joins yX2_joins, Cond.code yX2_joins cX2_joins 3 (some .boolean), Cond.methodLink RX1 183 yX1_isOpenFor, Cond.instanceMethod yX1_isOpenFor, Cond.selects RX1 yX1_isOpenFor yX1_isOpenFor, Cond.code yX1_isOpenFor cX1_isOpenFor 3 (some .boolean), Cond.methodLink RX1 222 yX1_hasRoom, Cond.methodLink RX1 206 yX1_firstNotClear, Cond.instanceMethod yX1_firstNotClear, Cond.selects RX1 yX1_firstNotClear yX1_firstNotClear, Cond.code yX1_firstNotClear cX1_firstNotClear 4 (some .int), Cond.methodLink RX1 209 yX2_countToBeClear]
def gG20 : List Cond := [Cond.instanceMethod yX2_countToBeClear, Cond.selects RX2 yX2_countToBeClear yX2_countToBeClear, Cond.code yX2_countToBeClear cX2_countToBeClear 1 (some .int), Cond.methodLink RX1 187 yX1_setOut, Cond.instanceMethod yX1_setOut, Cond.selects RX1 yX1_setOut yX1_setOut, Cond.code yX1_setOut cX1_setOut 3 none, Cond.fieldLink RX1 198 "SemaphoreBay$Route" "isWhole" "Z", Cond.methodLink RX1 202 yX1_lockRest, Cond.instanceMethod yX1_lockRest, Cond.selects RX1 yX1_lockRest yX1_lockRest, Cond.code yX1_lockRest cX1_lockRest 5 none, Cond.methodLink RX1 191 yX1_blameOn, Cond.instanceMethod yX1_blameOn, Cond.selects RX1 yX1_blameOn yX1_blameOn, Cond.code yX1_blameOn cX1_blameOn 3 (some .int), Cond.methodLink RL 64 yX4_doneIn, Cond.instanceMethod yX4_doneIn, Cond.selects RX4 yX4_doneIn yX4_doneIn, Cond.code yX4_doneIn cX4_doneIn 4 (some .int), Cond.methodLink RL 67 yX4_tick, Cond.instanceMethod yX4_tick, Cond.selects RX4 yX4_tick yX4_tick, Cond.code yX4_tick cX4_tick 2 (some .int)]
def gG21 : List Cond := [Cond.methodLink RL 70 yX4_many, Cond.methodLink RL 73 yX4_ofTrain, Cond.methodLink RL 76 yX4_ofBlock, Cond.methodLink RL 79 yX4_isStuck, Cond.methodLink RL 83 yX4_waitsFor, Cond.methodLink RL 86 yX4_waitedFor]
/-- every word that a method here needs -/
def gG : List Cond := (gG1 ++ (gG2 ++ (gG3 ++ (gG4 ++ (gG5 ++ (gG6 ++ (gG7 ++ (gG8 ++ (gG9 ++ (gG10 ++ (gG11 ++ (gG12 ++ (gG13 ++ (gG14 ++ (gG15 ++ (gG16 ++ (gG17 ++ (gG18 ++ (gG19 ++ (gG20 ++ (gG21))))))))))))))))))))) ++ (wsX40 ++ (wsX10 ++ (wsX00 ++ (wsX20 ++ (wsX30)))))
theorem gI1 {w : Cond} (h : w ∈ gG1) : w ∈ gG := List.mem_append_left _ (List.mem_append_left _ h)
theorem gI2 {w : Cond} (h : w ∈ gG2) : w ∈ gG := List.mem_append_left _ (List.mem_append_right _ (List.mem_append_left _ h))
theorem gI3 {w : Cond} (h : w ∈ gG3) : w ∈ gG := List.mem_append_left _ (List.mem_append_right _ (List.mem_append_right _ (List.mem_append_left _ h)))
theorem gI4 {w : Cond} (h : w ∈ gG4) : w ∈ gG := List.mem_append_left _ (List.mem_append_right _ (List.mem_append_right _ (List.mem_append_right _ (List.mem_append_left _ h))))
theorem gI5 {w : Cond} (h : w ∈ gG5) : w ∈ gG := List.mem_append_left _ (List.mem_append_right _ (List.mem_append_right _ (List.mem_append_right _ (List.mem_append_right _ (List.mem_append_left _ h)))))
theorem gI6 {w : Cond} (h : w ∈ gG6) : w ∈ gG := List.mem_append_left _ (List.mem_append_right _ (List.mem_append_right _ (List.mem_append_right _ (List.mem_append_right _ (List.mem_append_right _ (List.mem_append_left _ h))))))
theorem gI7 {w : Cond} (h : w ∈ gG7) : w ∈ gG := List.mem_append_left _ (List.mem_append_right _ (List.mem_append_right _ (List.mem_append_right _ (List.mem_append_right _ (List.mem_append_right _ (List.mem_append_right _ (List.mem_append_left _ h)))))))
theorem gI8 {w : Cond} (h : w ∈ gG8) : w ∈ gG := List.mem_append_left _ (List.mem_append_right _ (List.mem_append_right _ (List.mem_append_right _ (List.mem_append_right _ (List.mem_append_right _ (List.mem_append_right _ (List.mem_append_right _ (List.mem_append_left _ h))))))))
theorem gI9 {w : Cond} (h : w ∈ gG9) : w ∈ gG := List.mem_append_left _ (List.mem_append_right _ (List.mem_append_right _ (List.mem_append_right _ (List.mem_append_right _ (List.mem_append_right _ (List.mem_append_right _ (List.mem_append_right _ (List.mem_append_right _ (List.mem_append_left _ h)))))))))
theorem gI10 {w : Cond} (h : w ∈ gG10) : w ∈ gG := List.mem_append_left _ (List.mem_append_right _ (List.mem_append_right _ (List.mem_append_right _ (List.mem_append_right _ (List.mem_append_right _ (List.mem_append_right _ (List.mem_append_right _ (List.mem_append_right _ (List.mem_append_right _ (List.mem_append_left _ h))))))))))
theorem gI11 {w : Cond} (h : w ∈ gG11) : w ∈ gG := List.mem_append_left _ (List.mem_append_right _ (List.mem_append_right _ (List.mem_append_right _ (List.mem_append_right _ (List.mem_append_right _ (List.mem_append_right _ (List.mem_append_right _ (List.mem_append_right _ (List.mem_append_right _ (List.mem_append_right _ (List.mem_append_left _ h)))))))))))
theorem gI12 {w : Cond} (h : w ∈ gG12) : w ∈ gG := List.mem_append_left _ (List.mem_append_right _ (List.mem_append_right _ (List.mem_append_right _ (List.mem_append_right _ (List.mem_append_right _ (List.mem_append_right _ (List.mem_append_right _ (List.mem_append_right _ (List.mem_append_right _ (List.mem_append_right _ (List.mem_append_right _ (List.mem_append_left _ h))))))))))))
theorem gI13 {w : Cond} (h : w ∈ gG13) : w ∈ gG := List.mem_append_left _ (List.mem_append_right _ (List.mem_append_right _ (List.mem_append_right _ (List.mem_append_right _ (List.mem_append_right _ (List.mem_append_right _ (List.mem_append_right _ (List.mem_append_right _ (List.mem_append_right _ (List.mem_append_right _ (List.mem_append_right _ (List.mem_append_right _ (List.mem_append_left _ h)))))))))))))
theorem gI14 {w : Cond} (h : w ∈ gG14) : w ∈ gG := List.mem_append_left _ (List.mem_append_right _ (List.mem_append_right _ (List.mem_append_right _ (List.mem_append_right _ (List.mem_append_right _ (List.mem_append_right _ (List.mem_append_right _ (List.mem_append_right _ (List.mem_append_right _ (List.mem_append_right _ (List.mem_append_right _ (List.mem_append_right _ (List.mem_append_right _ (List.mem_append_left _ h))))))))))))))
theorem gI15 {w : Cond} (h : w ∈ gG15) : w ∈ gG := List.mem_append_left _ (List.mem_append_right _ (List.mem_append_right _ (List.mem_append_right _ (List.mem_append_right _ (List.mem_append_right _ (List.mem_append_right _ (List.mem_append_right _ (List.mem_append_right _ (List.mem_append_right _ (List.mem_append_right _ (List.mem_append_right _ (List.mem_append_right _ (List.mem_append_right _ (List.mem_append_right _ (List.mem_append_left _ h)))))))))))))))
theorem gI16 {w : Cond} (h : w ∈ gG16) : w ∈ gG := List.mem_append_left _ (List.mem_append_right _ (List.mem_append_right _ (List.mem_append_right _ (List.mem_append_right _ (List.mem_append_right _ (List.mem_append_right _ (List.mem_append_right _ (List.mem_append_right _ (List.mem_append_right _ (List.mem_append_right _ (List.mem_append_right _ (List.mem_append_right _ (List.mem_append_right _ (List.mem_append_right _ (List.mem_append_right _ (List.mem_append_left _ h))))))))))))))))
theorem gI17 {w : Cond} (h : w ∈ gG17) : w ∈ gG := List.mem_append_left _ (List.mem_append_right _ (List.mem_append_right _ (List.mem_append_right _ (List.mem_append_right _ (List.mem_append_right _ (List.mem_append_right _ (List.mem_append_right _ (List.mem_append_right _ (List.mem_append_right _ (List.mem_append_right _ (List.mem_append_right _ (List.mem_append_right _ (List.mem_append_right _ (List.mem_append_right _ (List.mem_append_right _ (List.mem_append_right _ (List.mem_append_left _ h)))))))))))))))))
theorem gI18 {w : Cond} (h : w ∈ gG18) : w ∈ gG := List.mem_append_left _ (List.mem_append_right _ (List.mem_append_right _ (List.mem_append_right _ (List.mem_append_right _ (List.mem_append_right _ (List.mem_append_right _ (List.mem_append_right _ (List.mem_append_right _ (List.mem_append_right _ (List.mem_append_right _ (List.mem_append_right _ (List.mem_append_right _ (List.mem_append_right _ (List.mem_append_right _ (List.mem_append_right _ (List.mem_append_right _ (List.mem_append_right _ (List.mem_append_left _ h))))))))))))))))))
theorem gI19 {w : Cond} (h : w ∈ gG19) : w ∈ gG := List.mem_append_left _ (List.mem_append_right _ (List.mem_append_right _ (List.mem_append_right _ (List.mem_append_right _ (List.mem_append_right _ (List.mem_append_right _ (List.mem_append_right _ (List.mem_append_right _ (List.mem_append_right _ (List.mem_append_right _ (List.mem_append_right _ (List.mem_append_right _ (List.mem_append_right _ (List.mem_append_right _ (List.mem_append_right _ (List.mem_append_right _ (List.mem_append_right _ (List.mem_append_right _ (List.mem_append_left _ h)))))))))))))))))))
theorem gI20 {w : Cond} (h : w ∈ gG20) : w ∈ gG := List.mem_append_left _ (List.mem_append_right _ (List.mem_append_right _ (List.mem_append_right _ (List.mem_append_right _ (List.mem_append_right _ (List.mem_append_right _ (List.mem_append_right _ (List.mem_append_right _ (List.mem_append_right _ (List.mem_append_right _ (List.mem_append_right _ (List.mem_append_right _ (List.mem_append_right _ (List.mem_append_right _ (List.mem_append_right _ (List.mem_append_right _ (List.mem_append_right _ (List.mem_append_right _ (List.mem_append_right _ (List.mem_append_left _ h))))))))))))))))))))
theorem gI21 {w : Cond} (h : w ∈ gG21) : w ∈ gG := List.mem_append_left _ (List.mem_append_right _ (List.mem_append_right _ (List.mem_append_right _ (List.mem_append_right _ (List.mem_append_right _ (List.mem_append_right _ (List.mem_append_right _ (List.mem_append_right _ (List.mem_append_right _ (List.mem_append_right _ (List.mem_append_right _ (List.mem_append_right _ (List.mem_append_right _ (List.mem_append_right _ (List.mem_append_right _ (List.mem_append_right _ (List.mem_append_right _ (List.mem_append_right _ (List.mem_append_right _ (List.mem_append_right _ (h)))))))))))))))))))))
theorem gC4 : ∀ w ∈ wsX40, w ∈ gG := fun _ h => List.mem_append_right _ (List.mem_append_left _ h)
theorem gC1 : ∀ w ∈ wsX10, w ∈ gG := fun _ h => List.mem_append_right _ (List.mem_append_right _ (List.mem_append_left _ h))
theorem gC0 : ∀ w ∈ wsX00, w ∈ gG := fun _ h => List.mem_append_right _ (List.mem_append_right _ (List.mem_append_right _ (List.mem_append_left _ h)))
theorem gC2 : ∀ w ∈ wsX20, w ∈ gG := fun _ h => List.mem_append_right _ (List.mem_append_right _ (List.mem_append_right _ (List.mem_append_right _ (List.mem_append_left _ h))))
theorem gC3 : ∀ w ∈ wsX30, w ∈ gG := fun _ h => List.mem_append_right _ (List.mem_append_right _ (List.mem_append_right _ (List.mem_append_right _ (List.mem_append_right _ (h)))))
theorem gw_0 : Cond.classLink RL 9 RX4 ∈ gG := gI1 (List.mem_of_getElem? (i := 0) rfl)
theorem gw_1 : Cond.instantiable RX4 2 ∈ gG := gI1 (List.mem_of_getElem? (i := 1) rfl)
theorem gw_2 : Cond.initialized RX4 ∈ gG := gI1 (List.mem_of_getElem? (i := 2) rfl)
theorem gw_3 : Cond.arrayClass .int ∈ gG := gI1 (List.mem_of_getElem? (i := 3) rfl)
theorem gw_4 : Cond.methodLink RL 11 yX4_init ∈ gG := gI1 (List.mem_of_getElem? (i := 4) rfl)
theorem gw_5 : Cond.instanceMethod yX4_init ∈ gG := gI1 (List.mem_of_getElem? (i := 5) rfl)
theorem gw_6 : Cond.code yX4_init cX4_init 1 none ∈ gG := gI1 (List.mem_of_getElem? (i := 6) rfl)
theorem gw_7 : Cond.methodLink RX4 1 objectInit ∈ gG := gI1 (List.mem_of_getElem? (i := 7) rfl)
theorem gw_8 : Cond.instanceMethod objectInit ∈ gG := gI1 (List.mem_of_getElem? (i := 8) rfl)
theorem gw_9 : Cond.code objectInit ⟨#[0xb1]⟩ 1 none ∈ gG := gI1 (List.mem_of_getElem? (i := 9) rfl)
theorem gw_10 : Cond.classLink RX4 7 RX1 ∈ gG := gI1 (List.mem_of_getElem? (i := 10) rfl)
theorem gw_11 : Cond.instantiable RX1 10 ∈ gG := gI1 (List.mem_of_getElem? (i := 11) rfl)
theorem gw_12 : Cond.initialized RX1 ∈ gG := gI1 (List.mem_of_getElem? (i := 12) rfl)
theorem gw_13 : Cond.fieldLink RX4 10 "SemaphoreBay" "line" "LSemaphoreBay$Line;" ∈ gG := gI1 (List.mem_of_getElem? (i := 13) rfl)
theorem gw_14 : Cond.fieldLink RX4 16 "SemaphoreBay" "trial" "LSemaphoreBay$Line;" ∈ gG := gI1 (List.mem_of_getElem? (i := 14) rfl)
theorem gw_15 : Cond.methodLink RX4 9 yX1_init ∈ gG := gI1 (List.mem_of_getElem? (i := 15) rfl)
theorem gw_16 : Cond.instanceMethod yX1_init ∈ gG := gI1 (List.mem_of_getElem? (i := 16) rfl)
theorem gw_17 : Cond.code yX1_init cX1_init 2 none ∈ gG := gI1 (List.mem_of_getElem? (i := 17) rfl)
theorem gw_18 : Cond.methodLink RX1 3 objectInit ∈ gG := gI1 (List.mem_of_getElem? (i := 18) rfl)
theorem gw_19 : Cond.fieldLink RX1 9 "SemaphoreBay$Line" "platforms" "[I" ∈ gG := gI1 (List.mem_of_getElem? (i := 19) rfl)
theorem gw_20 : Cond.classLink RX1 15 RX0 ∈ gG := gI1 (List.mem_of_getElem? (i := 20) rfl)
theorem gw_21 : Cond.fieldLink RX1 17 "SemaphoreBay$Line" "blocks" "[LSemaphoreBay$Block;" ∈ gG := gI1 (List.mem_of_getElem? (i := 21) rfl)
theorem gw_22 : Cond.classLink RX1 21 RX2 ∈ gG := gI1 (List.mem_of_getElem? (i := 22) rfl)
theorem gw_23 : Cond.fieldLink RX1 23 "SemaphoreBay$Line" "routes" "[LSemaphoreBay$Route;" ∈ gG := gI1 (List.mem_of_getElem? (i := 23) rfl)
theorem gw_24 : Cond.classLink RX1 27 RX3 ∈ gG := gI2 (List.mem_of_getElem? (i := 0) rfl)
theorem gw_25 : Cond.fieldLink RX1 29 "SemaphoreBay$Line" "trains" "[LSemaphoreBay$Train;" ∈ gG := gI2 (List.mem_of_getElem? (i := 1) rfl)
theorem gw_26 : Cond.fieldLink RX1 33 "SemaphoreBay$Line" "stay" "I" ∈ gG := gI2 (List.mem_of_getElem? (i := 2) rfl)
theorem gw_27 : Cond.instantiable RX0 4 ∈ gG := gI2 (List.mem_of_getElem? (i := 3) rfl)
theorem gw_28 : Cond.initialized RX0 ∈ gG := gI2 (List.mem_of_getElem? (i := 4) rfl)
theorem gw_29 : Cond.instantiable RX2 5 ∈ gG := gI2 (List.mem_of_getElem? (i := 5) rfl)
theorem gw_30 : Cond.initialized RX2 ∈ gG := gI2 (List.mem_of_getElem? (i := 6) rfl)
theorem gw_31 : Cond.instantiable RX3 16 ∈ gG := gI2 (List.mem_of_getElem? (i := 7) rfl)
theorem gw_32 : Cond.initialized RX3 ∈ gG := gI2 (List.mem_of_getElem? (i := 8) rfl)
theorem gw_33 : Cond.instanceMethod yX0_init ∈ gG := gI2 (List.mem_of_getElem? (i := 9) rfl)
theorem gw_34 : Cond.code yX0_init cX0_init 1 none ∈ gG := gI2 (List.mem_of_getElem? (i := 10) rfl)
theorem gw_35 : Cond.methodLink RX0 3 objectInit ∈ gG := gI2 (List.mem_of_getElem? (i := 11) rfl)
theorem gw_36 : Cond.fieldLink RX0 9 "SemaphoreBay$Block" "heldBy" "I" ∈ gG := gI2 (List.mem_of_getElem? (i := 12) rfl)
theorem gw_37 : Cond.fieldLink RX0 15 "SemaphoreBay$Block" "lockedFor" "I" ∈ gG := gI2 (List.mem_of_getElem? (i := 13) rfl)
theorem gw_38 : Cond.instanceMethod yX2_init ∈ gG := gI2 (List.mem_of_getElem? (i := 14) rfl)
theorem gw_39 : Cond.code yX2_init cX2_init 1 none ∈ gG := gI2 (List.mem_of_getElem? (i := 15) rfl)
theorem gw_40 : Cond.methodLink RX2 3 objectInit ∈ gG := gI2 (List.mem_of_getElem? (i := 16) rfl)
theorem gw_41 : Cond.fieldLink RX2 9 "SemaphoreBay$Route" "blocks" "[I" ∈ gG := gI2 (List.mem_of_getElem? (i := 17) rfl)
theorem gw_42 : Cond.instanceMethod yX3_init ∈ gG := gI2 (List.mem_of_getElem? (i := 18) rfl)
theorem gw_43 : Cond.code yX3_init cX3_init 1 none ∈ gG := gI2 (List.mem_of_getElem? (i := 19) rfl)
theorem gw_44 : Cond.methodLink RX3 3 objectInit ∈ gG := gI2 (List.mem_of_getElem? (i := 20) rfl)
theorem gw_45 : Cond.fieldLink RX3 9 "SemaphoreBay$Train" "stations" "[I" ∈ gG := gI2 (List.mem_of_getElem? (i := 21) rfl)
theorem gw_46 : Cond.fieldLink RX3 15 "SemaphoreBay$Train" "times" "[I" ∈ gG := gI2 (List.mem_of_getElem? (i := 22) rfl)
theorem gw_47 : Cond.fieldLink RX3 18 "SemaphoreBay$Train" "station" "I" ∈ gG := gI2 (List.mem_of_getElem? (i := 23) rfl)
theorem gw_48 : Cond.fieldLink RX3 22 "SemaphoreBay$Train" "route" "I" ∈ gG := gI3 (List.mem_of_getElem? (i := 0) rfl)
theorem gw_49 : Cond.fieldLink RX3 25 "SemaphoreBay$Train" "waitsFor" "I" ∈ gG := gI3 (List.mem_of_getElem? (i := 1) rfl)
theorem gw_50 : Cond.fieldLink RX3 28 "SemaphoreBay$Train" "waitedFor" "[I" ∈ gG := gI3 (List.mem_of_getElem? (i := 2) rfl)
theorem gw_51 : Cond.methodLink RL 12 yL_cell ∈ gG := gI3 (List.mem_of_getElem? (i := 3) rfl)
theorem gw_52 : Cond.static yL_cell ∈ gG := gI3 (List.mem_of_getElem? (i := 4) rfl)
theorem gw_53 : Cond.initialized RL ∈ gG := gI3 (List.mem_of_getElem? (i := 5) rfl)
theorem gw_54 : Cond.code yL_cell cL_cell 2 (some .int) ∈ gG := gI3 (List.mem_of_getElem? (i := 6) rfl)
theorem gw_55 : Cond.constant RL 8 (790386105) ∈ gG := gI3 (List.mem_of_getElem? (i := 7) rfl)
theorem gw_56 : Cond.methodLink RL 18 yL_below ∈ gG := gI3 (List.mem_of_getElem? (i := 8) rfl)
theorem gw_57 : Cond.static yL_below ∈ gG := gI3 (List.mem_of_getElem? (i := 9) rfl)
theorem gw_58 : Cond.code yL_below cL_below 2 (some .int) ∈ gG := gI3 (List.mem_of_getElem? (i := 10) rfl)
theorem gw_59 : Cond.constant RL 7 (2147483647) ∈ gG := gI3 (List.mem_of_getElem? (i := 11) rfl)
theorem gw_60 : Cond.methodLink RL 22 yX4_block ∈ gG := gI3 (List.mem_of_getElem? (i := 12) rfl)
theorem gw_61 : Cond.instanceMethod yX4_block ∈ gG := gI3 (List.mem_of_getElem? (i := 13) rfl)
theorem gw_62 : Cond.selects RX4 yX4_block yX4_block ∈ gG := gI3 (List.mem_of_getElem? (i := 14) rfl)
theorem gw_63 : Cond.code yX4_block cX4_block 3 (some .int) ∈ gG := gI3 (List.mem_of_getElem? (i := 15) rfl)
theorem gw_64 : Cond.classLink RX4 35 "java/lang/IllegalStateException" ∈ gG := gI3 (List.mem_of_getElem? (i := 16) rfl)
theorem gw_65 : Cond.initialized "java/lang/IllegalStateException" ∈ gG := gI3 (List.mem_of_getElem? (i := 17) rfl)
theorem gw_66 : Cond.fieldLink RX4 31 "SemaphoreBay$Line" "blockCount" "I" ∈ gG := gI3 (List.mem_of_getElem? (i := 18) rfl)
theorem gw_67 : Cond.fieldLink RX4 42 "SemaphoreBay$Line" "blocks" "[LSemaphoreBay$Block;" ∈ gG := gI3 (List.mem_of_getElem? (i := 19) rfl)
theorem gw_68 : Cond.fieldLink RX4 46 "SemaphoreBay$Block" "length" "I" ∈ gG := gI3 (List.mem_of_getElem? (i := 20) rfl)
theorem gw_69 : Cond.methodLink RX4 23 yX4_needWithin ∈ gG := gI3 (List.mem_of_getElem? (i := 21) rfl)
theorem gw_70 : Cond.static yX4_needWithin ∈ gG := gI3 (List.mem_of_getElem? (i := 22) rfl)
theorem gw_71 : Cond.code yX4_needWithin cX4_needWithin 3 none ∈ gG := gI3 (List.mem_of_getElem? (i := 23) rfl)
theorem gw_72 : Cond.classLink RX4 54 "java/lang/IllegalArgumentException" ∈ gG := gI4 (List.mem_of_getElem? (i := 0) rfl)
theorem gw_73 : Cond.initialized "java/lang/IllegalArgumentException" ∈ gG := gI4 (List.mem_of_getElem? (i := 1) rfl)
theorem gw_74 : Cond.methodLink RL 26 yX4_route ∈ gG := gI4 (List.mem_of_getElem? (i := 2) rfl)
theorem gw_75 : Cond.instanceMethod yX4_route ∈ gG := gI4 (List.mem_of_getElem? (i := 3) rfl)
theorem gw_76 : Cond.selects RX4 yX4_route yX4_route ∈ gG := gI4 (List.mem_of_getElem? (i := 4) rfl)
theorem gw_77 : Cond.code yX4_route cX4_route 6 (some .int) ∈ gG := gI4 (List.mem_of_getElem? (i := 5) rfl)
theorem gw_78 : Cond.fieldLink RX4 59 "SemaphoreBay$Line" "routeCount" "I" ∈ gG := gI4 (List.mem_of_getElem? (i := 6) rfl)
theorem gw_79 : Cond.fieldLink RX4 64 "SemaphoreBay$Line" "routes" "[LSemaphoreBay$Route;" ∈ gG := gI4 (List.mem_of_getElem? (i := 7) rfl)
theorem gw_80 : Cond.methodLink RX4 19 yX4_needStation ∈ gG := gI4 (List.mem_of_getElem? (i := 8) rfl)
theorem gw_81 : Cond.static yX4_needStation ∈ gG := gI4 (List.mem_of_getElem? (i := 9) rfl)
theorem gw_82 : Cond.code yX4_needStation cX4_needStation 1 none ∈ gG := gI4 (List.mem_of_getElem? (i := 10) rfl)
theorem gw_83 : Cond.methodLink RX4 194 yX4_needNumber ∈ gG := gI4 (List.mem_of_getElem? (i := 11) rfl)
theorem gw_84 : Cond.static yX4_needNumber ∈ gG := gI4 (List.mem_of_getElem? (i := 12) rfl)
theorem gw_85 : Cond.code yX4_needNumber cX4_needNumber 2 none ∈ gG := gI4 (List.mem_of_getElem? (i := 13) rfl)
theorem gw_86 : Cond.classLink RX4 299 "java/lang/IndexOutOfBoundsException" ∈ gG := gI4 (List.mem_of_getElem? (i := 14) rfl)
theorem gw_87 : Cond.initialized "java/lang/IndexOutOfBoundsException" ∈ gG := gI4 (List.mem_of_getElem? (i := 15) rfl)
theorem gw_88 : Cond.methodLink RX4 51 yX4_needBlock ∈ gG := gI4 (List.mem_of_getElem? (i := 16) rfl)
theorem gw_89 : Cond.instanceMethod yX4_needBlock ∈ gG := gI4 (List.mem_of_getElem? (i := 17) rfl)
theorem gw_90 : Cond.selects RX4 yX4_needBlock yX4_needBlock ∈ gG := gI4 (List.mem_of_getElem? (i := 18) rfl)
theorem gw_91 : Cond.code yX4_needBlock cX4_needBlock 2 none ∈ gG := gI4 (List.mem_of_getElem? (i := 19) rfl)
theorem gw_92 : Cond.methodLink RX4 68 yX2_lay ∈ gG := gI4 (List.mem_of_getElem? (i := 20) rfl)
theorem gw_93 : Cond.instanceMethod yX2_lay ∈ gG := gI4 (List.mem_of_getElem? (i := 21) rfl)
theorem gw_94 : Cond.selects RX2 yX2_lay yX2_lay ∈ gG := gI4 (List.mem_of_getElem? (i := 22) rfl)
theorem gw_95 : Cond.code yX2_lay cX2_lay 4 none ∈ gG := gI4 (List.mem_of_getElem? (i := 23) rfl)
theorem gw_96 : Cond.fieldLink RX2 15 "SemaphoreBay$Route" "from" "I" ∈ gG := gI5 (List.mem_of_getElem? (i := 0) rfl)
theorem gw_97 : Cond.fieldLink RX2 19 "SemaphoreBay$Route" "to" "I" ∈ gG := gI5 (List.mem_of_getElem? (i := 1) rfl)
theorem gw_98 : Cond.fieldLink RX2 22 "SemaphoreBay$Route" "isWhole" "Z" ∈ gG := gI5 (List.mem_of_getElem? (i := 2) rfl)
theorem gw_99 : Cond.fieldLink RX2 26 "SemaphoreBay$Route" "count" "I" ∈ gG := gI5 (List.mem_of_getElem? (i := 3) rfl)
theorem gw_100 : Cond.methodLink RX4 74 yX2_addBlock ∈ gG := gI5 (List.mem_of_getElem? (i := 4) rfl)
theorem gw_101 : Cond.instanceMethod yX2_addBlock ∈ gG := gI5 (List.mem_of_getElem? (i := 5) rfl)
theorem gw_102 : Cond.selects RX2 yX2_addBlock yX2_addBlock ∈ gG := gI5 (List.mem_of_getElem? (i := 6) rfl)
theorem gw_103 : Cond.code yX2_addBlock cX2_addBlock 2 none ∈ gG := gI5 (List.mem_of_getElem? (i := 7) rfl)
theorem gw_104 : Cond.methodLink RL 30 yX4_ofRoute ∈ gG := gI5 (List.mem_of_getElem? (i := 8) rfl)
theorem gw_105 : Cond.instanceMethod yX4_ofRoute ∈ gG := gI5 (List.mem_of_getElem? (i := 9) rfl)
theorem gw_106 : Cond.selects RX4 yX4_ofRoute yX4_ofRoute ∈ gG := gI5 (List.mem_of_getElem? (i := 10) rfl)
theorem gw_107 : Cond.code yX4_ofRoute cX4_ofRoute 4 (some .int) ∈ gG := gI5 (List.mem_of_getElem? (i := 11) rfl)
theorem gw_108 : Cond.fieldLink RX4 200 "SemaphoreBay$Route" "from" "I" ∈ gG := gI5 (List.mem_of_getElem? (i := 12) rfl)
theorem gw_109 : Cond.fieldLink RX4 203 "SemaphoreBay$Route" "to" "I" ∈ gG := gI5 (List.mem_of_getElem? (i := 13) rfl)
theorem gw_110 : Cond.fieldLink RX4 86 "SemaphoreBay$Route" "count" "I" ∈ gG := gI5 (List.mem_of_getElem? (i := 14) rfl)
theorem gw_111 : Cond.fieldLink RX4 206 "SemaphoreBay$Route" "isWhole" "Z" ∈ gG := gI5 (List.mem_of_getElem? (i := 15) rfl)
theorem gw_112 : Cond.methodLink RX4 77 yX4_needRoute ∈ gG := gI5 (List.mem_of_getElem? (i := 16) rfl)
theorem gw_113 : Cond.instanceMethod yX4_needRoute ∈ gG := gI5 (List.mem_of_getElem? (i := 17) rfl)
theorem gw_114 : Cond.selects RX4 yX4_needRoute yX4_needRoute ∈ gG := gI5 (List.mem_of_getElem? (i := 18) rfl)
theorem gw_115 : Cond.code yX4_needRoute cX4_needRoute 2 none ∈ gG := gI5 (List.mem_of_getElem? (i := 19) rfl)
theorem gw_116 : Cond.methodLink RX4 210 yX4_oneIf ∈ gG := gI5 (List.mem_of_getElem? (i := 20) rfl)
theorem gw_117 : Cond.static yX4_oneIf ∈ gG := gI5 (List.mem_of_getElem? (i := 21) rfl)
theorem gw_118 : Cond.code yX4_oneIf cX4_oneIf 1 (some .int) ∈ gG := gI5 (List.mem_of_getElem? (i := 22) rfl)
theorem gw_119 : Cond.methodLink RX4 214 yX1_lengthOf ∈ gG := gI5 (List.mem_of_getElem? (i := 23) rfl)
theorem gw_120 : Cond.instanceMethod yX1_lengthOf ∈ gG := gI6 (List.mem_of_getElem? (i := 0) rfl)
theorem gw_121 : Cond.selects RX1 yX1_lengthOf yX1_lengthOf ∈ gG := gI6 (List.mem_of_getElem? (i := 1) rfl)
theorem gw_122 : Cond.code yX1_lengthOf cX1_lengthOf 5 (some .int) ∈ gG := gI6 (List.mem_of_getElem? (i := 2) rfl)
theorem gw_123 : Cond.fieldLink RX1 97 "SemaphoreBay$Route" "count" "I" ∈ gG := gI6 (List.mem_of_getElem? (i := 3) rfl)
theorem gw_124 : Cond.fieldLink RX1 46 "SemaphoreBay$Line" "blockCount" "I" ∈ gG := gI6 (List.mem_of_getElem? (i := 4) rfl)
theorem gw_125 : Cond.fieldLink RX1 150 "SemaphoreBay$Block" "length" "I" ∈ gG := gI6 (List.mem_of_getElem? (i := 5) rfl)
theorem gw_126 : Cond.methodLink RX1 103 yX2_blockAt ∈ gG := gI6 (List.mem_of_getElem? (i := 6) rfl)
theorem gw_127 : Cond.instanceMethod yX2_blockAt ∈ gG := gI6 (List.mem_of_getElem? (i := 7) rfl)
theorem gw_128 : Cond.selects RX2 yX2_blockAt yX2_blockAt ∈ gG := gI6 (List.mem_of_getElem? (i := 8) rfl)
theorem gw_129 : Cond.code yX2_blockAt cX2_blockAt 2 (some .int) ∈ gG := gI6 (List.mem_of_getElem? (i := 9) rfl)
theorem gw_130 : Cond.methodLink RL 33 yX4_onRoute ∈ gG := gI6 (List.mem_of_getElem? (i := 10) rfl)
theorem gw_131 : Cond.instanceMethod yX4_onRoute ∈ gG := gI6 (List.mem_of_getElem? (i := 11) rfl)
theorem gw_132 : Cond.selects RX4 yX4_onRoute yX4_onRoute ∈ gG := gI6 (List.mem_of_getElem? (i := 12) rfl)
theorem gw_133 : Cond.code yX4_onRoute cX4_onRoute 3 (some .int) ∈ gG := gI6 (List.mem_of_getElem? (i := 13) rfl)
theorem gw_134 : Cond.methodLink RX4 197 yX2_blockAt ∈ gG := gI6 (List.mem_of_getElem? (i := 14) rfl)
theorem gw_135 : Cond.methodLink RL 36 yX4_over ∈ gG := gI6 (List.mem_of_getElem? (i := 15) rfl)
theorem gw_136 : Cond.instanceMethod yX4_over ∈ gG := gI6 (List.mem_of_getElem? (i := 16) rfl)
theorem gw_137 : Cond.selects RX4 yX4_over yX4_over ∈ gG := gI6 (List.mem_of_getElem? (i := 17) rfl)
theorem gw_138 : Cond.code yX4_over cX4_over 4 (some .int) ∈ gG := gI6 (List.mem_of_getElem? (i := 18) rfl)
theorem gw_139 : Cond.methodLink RX4 80 yX2_hasBlock ∈ gG := gI6 (List.mem_of_getElem? (i := 19) rfl)
theorem gw_140 : Cond.instanceMethod yX2_hasBlock ∈ gG := gI6 (List.mem_of_getElem? (i := 20) rfl)
theorem gw_141 : Cond.selects RX2 yX2_hasBlock yX2_hasBlock ∈ gG := gI6 (List.mem_of_getElem? (i := 21) rfl)
theorem gw_142 : Cond.code yX2_hasBlock cX2_hasBlock 3 (some .boolean) ∈ gG := gI6 (List.mem_of_getElem? (i := 22) rfl)
theorem gw_143 : Cond.methodLink RX2 33 yX2_blockAt ∈ gG := gI6 (List.mem_of_getElem? (i := 23) rfl)
theorem gw_144 : Cond.methodLink RX4 89 yX1_isInUse ∈ gG := gI7 (List.mem_of_getElem? (i := 0) rfl)
theorem gw_145 : Cond.instanceMethod yX1_isInUse ∈ gG := gI7 (List.mem_of_getElem? (i := 1) rfl)
theorem gw_146 : Cond.selects RX1 yX1_isInUse yX1_isInUse ∈ gG := gI7 (List.mem_of_getElem? (i := 2) rfl)
theorem gw_147 : Cond.code yX1_isInUse cX1_isInUse 3 (some .boolean) ∈ gG := gI7 (List.mem_of_getElem? (i := 3) rfl)
theorem gw_148 : Cond.fieldLink RX1 59 "SemaphoreBay$Line" "trainCount" "I" ∈ gG := gI7 (List.mem_of_getElem? (i := 4) rfl)
theorem gw_149 : Cond.fieldLink RX1 91 "SemaphoreBay$Train" "route" "I" ∈ gG := gI7 (List.mem_of_getElem? (i := 5) rfl)
theorem gw_150 : Cond.methodLink RL 39 yX4_station ∈ gG := gI7 (List.mem_of_getElem? (i := 6) rfl)
theorem gw_151 : Cond.instanceMethod yX4_station ∈ gG := gI7 (List.mem_of_getElem? (i := 7) rfl)
theorem gw_152 : Cond.selects RX4 yX4_station yX4_station ∈ gG := gI7 (List.mem_of_getElem? (i := 8) rfl)
theorem gw_153 : Cond.code yX4_station cX4_station 3 (some .int) ∈ gG := gI7 (List.mem_of_getElem? (i := 9) rfl)
theorem gw_154 : Cond.fieldLink RX4 27 "SemaphoreBay$Line" "platforms" "[I" ∈ gG := gI7 (List.mem_of_getElem? (i := 10) rfl)
theorem gw_155 : Cond.methodLink RX4 182 yX1_countAt ∈ gG := gI7 (List.mem_of_getElem? (i := 11) rfl)
theorem gw_156 : Cond.instanceMethod yX1_countAt ∈ gG := gI7 (List.mem_of_getElem? (i := 12) rfl)
theorem gw_157 : Cond.selects RX1 yX1_countAt yX1_countAt ∈ gG := gI7 (List.mem_of_getElem? (i := 13) rfl)
theorem gw_158 : Cond.code yX1_countAt cX1_countAt 4 (some .int) ∈ gG := gI7 (List.mem_of_getElem? (i := 14) rfl)
theorem gw_159 : Cond.fieldLink RX1 140 "SemaphoreBay$Train" "station" "I" ∈ gG := gI7 (List.mem_of_getElem? (i := 15) rfl)
theorem gw_160 : Cond.methodLink RX4 185 yX1_countOnTheWayTo ∈ gG := gI7 (List.mem_of_getElem? (i := 16) rfl)
theorem gw_161 : Cond.instanceMethod yX1_countOnTheWayTo ∈ gG := gI7 (List.mem_of_getElem? (i := 17) rfl)
theorem gw_162 : Cond.selects RX1 yX1_countOnTheWayTo yX1_countOnTheWayTo ∈ gG := gI7 (List.mem_of_getElem? (i := 18) rfl)
theorem gw_163 : Cond.code yX1_countOnTheWayTo cX1_countOnTheWayTo 5 (some .int) ∈ gG := gI7 (List.mem_of_getElem? (i := 19) rfl)
theorem gw_164 : Cond.fieldLink RX1 53 "SemaphoreBay$Line" "routeCount" "I" ∈ gG := gI7 (List.mem_of_getElem? (i := 20) rfl)
theorem gw_165 : Cond.fieldLink RX1 219 "SemaphoreBay$Route" "to" "I" ∈ gG := gI7 (List.mem_of_getElem? (i := 21) rfl)
theorem gw_166 : Cond.methodLink RL 42 yX4_train ∈ gG := gI7 (List.mem_of_getElem? (i := 22) rfl)
theorem gw_167 : Cond.instanceMethod yX4_train ∈ gG := gI7 (List.mem_of_getElem? (i := 23) rfl)
theorem gw_168 : Cond.selects RX4 yX4_train yX4_train ∈ gG := gI8 (List.mem_of_getElem? (i := 0) rfl)
theorem gw_169 : Cond.code yX4_train cX4_train 7 (some .int) ∈ gG := gI8 (List.mem_of_getElem? (i := 1) rfl)
theorem gw_170 : Cond.fieldLink RX4 111 "SemaphoreBay$Line" "trainCount" "I" ∈ gG := gI8 (List.mem_of_getElem? (i := 2) rfl)
theorem gw_171 : Cond.fieldLink RX4 119 "SemaphoreBay$Line" "trains" "[LSemaphoreBay$Train;" ∈ gG := gI8 (List.mem_of_getElem? (i := 3) rfl)
theorem gw_172 : Cond.fieldLink RX4 123 "SemaphoreBay$Train" "rank" "I" ∈ gG := gI8 (List.mem_of_getElem? (i := 4) rfl)
theorem gw_173 : Cond.fieldLink RX4 128 "SemaphoreBay$Train" "pace" "I" ∈ gG := gI8 (List.mem_of_getElem? (i := 5) rfl)
theorem gw_174 : Cond.fieldLink RX4 131 "SemaphoreBay$Train" "station" "I" ∈ gG := gI8 (List.mem_of_getElem? (i := 6) rfl)
theorem gw_175 : Cond.fieldLink RX4 134 "SemaphoreBay$Line" "clock" "I" ∈ gG := gI8 (List.mem_of_getElem? (i := 7) rfl)
theorem gw_176 : Cond.fieldLink RX4 137 "SemaphoreBay$Train" "cameAt" "I" ∈ gG := gI8 (List.mem_of_getElem? (i := 8) rfl)
theorem gw_177 : Cond.methodLink RX4 114 yX1_hasRoom ∈ gG := gI8 (List.mem_of_getElem? (i := 9) rfl)
theorem gw_178 : Cond.instanceMethod yX1_hasRoom ∈ gG := gI8 (List.mem_of_getElem? (i := 10) rfl)
theorem gw_179 : Cond.selects RX1 yX1_hasRoom yX1_hasRoom ∈ gG := gI8 (List.mem_of_getElem? (i := 11) rfl)
theorem gw_180 : Cond.code yX1_hasRoom cX1_hasRoom 2 (some .boolean) ∈ gG := gI8 (List.mem_of_getElem? (i := 12) rfl)
theorem gw_181 : Cond.methodLink RX1 229 yX1_countAt ∈ gG := gI8 (List.mem_of_getElem? (i := 13) rfl)
theorem gw_182 : Cond.methodLink RX1 232 yX1_countOnTheWayTo ∈ gG := gI8 (List.mem_of_getElem? (i := 14) rfl)
theorem gw_183 : Cond.methodLink RX4 140 yX3_addStop ∈ gG := gI8 (List.mem_of_getElem? (i := 15) rfl)
theorem gw_184 : Cond.instanceMethod yX3_addStop ∈ gG := gI8 (List.mem_of_getElem? (i := 16) rfl)
theorem gw_185 : Cond.selects RX3 yX3_addStop yX3_addStop ∈ gG := gI8 (List.mem_of_getElem? (i := 17) rfl)
theorem gw_186 : Cond.code yX3_addStop cX3_addStop 3 none ∈ gG := gI8 (List.mem_of_getElem? (i := 18) rfl)
theorem gw_187 : Cond.fieldLink RX3 37 "SemaphoreBay$Train" "stops" "I" ∈ gG := gI8 (List.mem_of_getElem? (i := 19) rfl)
theorem gw_188 : Cond.methodLink RL 46 yX4_plan ∈ gG := gI8 (List.mem_of_getElem? (i := 20) rfl)
theorem gw_189 : Cond.instanceMethod yX4_plan ∈ gG := gI8 (List.mem_of_getElem? (i := 21) rfl)
theorem gw_190 : Cond.selects RX4 yX4_plan yX4_plan ∈ gG := gI8 (List.mem_of_getElem? (i := 22) rfl)
theorem gw_191 : Cond.code yX4_plan cX4_plan 5 (some .int) ∈ gG := gI8 (List.mem_of_getElem? (i := 23) rfl)
theorem gw_192 : Cond.fieldLink RX4 146 "SemaphoreBay$Train" "stops" "I" ∈ gG := gI9 (List.mem_of_getElem? (i := 0) rfl)
theorem gw_193 : Cond.methodLink RX4 143 yX4_needTrain ∈ gG := gI9 (List.mem_of_getElem? (i := 1) rfl)
theorem gw_194 : Cond.instanceMethod yX4_needTrain ∈ gG := gI9 (List.mem_of_getElem? (i := 2) rfl)
theorem gw_195 : Cond.selects RX4 yX4_needTrain yX4_needTrain ∈ gG := gI9 (List.mem_of_getElem? (i := 3) rfl)
theorem gw_196 : Cond.code yX4_needTrain cX4_needTrain 2 none ∈ gG := gI9 (List.mem_of_getElem? (i := 4) rfl)
theorem gw_197 : Cond.methodLink RX4 149 yX3_timeOf ∈ gG := gI9 (List.mem_of_getElem? (i := 5) rfl)
theorem gw_198 : Cond.instanceMethod yX3_timeOf ∈ gG := gI9 (List.mem_of_getElem? (i := 6) rfl)
theorem gw_199 : Cond.selects RX3 yX3_timeOf yX3_timeOf ∈ gG := gI9 (List.mem_of_getElem? (i := 7) rfl)
theorem gw_200 : Cond.code yX3_timeOf cX3_timeOf 2 (some .int) ∈ gG := gI9 (List.mem_of_getElem? (i := 8) rfl)
theorem gw_201 : Cond.methodLink RX4 152 yX3_stationOf ∈ gG := gI9 (List.mem_of_getElem? (i := 9) rfl)
theorem gw_202 : Cond.instanceMethod yX3_stationOf ∈ gG := gI9 (List.mem_of_getElem? (i := 10) rfl)
theorem gw_203 : Cond.selects RX3 yX3_stationOf yX3_stationOf ∈ gG := gI9 (List.mem_of_getElem? (i := 11) rfl)
theorem gw_204 : Cond.code yX3_stationOf cX3_stationOf 2 (some .int) ∈ gG := gI9 (List.mem_of_getElem? (i := 12) rfl)
theorem gw_205 : Cond.methodLink RL 50 yX4_stop ∈ gG := gI9 (List.mem_of_getElem? (i := 13) rfl)
theorem gw_206 : Cond.instanceMethod yX4_stop ∈ gG := gI9 (List.mem_of_getElem? (i := 14) rfl)
theorem gw_207 : Cond.selects RX4 yX4_stop yX4_stop ∈ gG := gI9 (List.mem_of_getElem? (i := 15) rfl)
theorem gw_208 : Cond.code yX4_stop cX4_stop 6 (some .int) ∈ gG := gI9 (List.mem_of_getElem? (i := 16) rfl)
theorem gw_209 : Cond.methodLink RX4 157 yX3_isDone ∈ gG := gI9 (List.mem_of_getElem? (i := 17) rfl)
theorem gw_210 : Cond.instanceMethod yX3_isDone ∈ gG := gI9 (List.mem_of_getElem? (i := 18) rfl)
theorem gw_211 : Cond.selects RX3 yX3_isDone yX3_isDone ∈ gG := gI9 (List.mem_of_getElem? (i := 19) rfl)
theorem gw_212 : Cond.code yX3_isDone cX3_isDone 1 (some .boolean) ∈ gG := gI9 (List.mem_of_getElem? (i := 20) rfl)
theorem gw_213 : Cond.methodLink RL 54 yX4_order ∈ gG := gI9 (List.mem_of_getElem? (i := 21) rfl)
theorem gw_214 : Cond.instanceMethod yX4_order ∈ gG := gI9 (List.mem_of_getElem? (i := 22) rfl)
theorem gw_215 : Cond.selects RX4 yX4_order yX4_order ∈ gG := gI9 (List.mem_of_getElem? (i := 23) rfl)
theorem gw_216 : Cond.code yX4_order cX4_order 4 (some .int) ∈ gG := gI10 (List.mem_of_getElem? (i := 0) rfl)
theorem gw_217 : Cond.fieldLink RX4 105 "SemaphoreBay$Line" "order" "I" ∈ gG := gI10 (List.mem_of_getElem? (i := 1) rfl)
theorem gw_218 : Cond.fieldLink RX4 108 "SemaphoreBay$Line" "stay" "I" ∈ gG := gI10 (List.mem_of_getElem? (i := 2) rfl)
theorem gw_219 : Cond.methodLink RL 57 yX4_digest ∈ gG := gI10 (List.mem_of_getElem? (i := 3) rfl)
theorem gw_220 : Cond.instanceMethod yX4_digest ∈ gG := gI10 (List.mem_of_getElem? (i := 4) rfl)
theorem gw_221 : Cond.selects RX4 yX4_digest yX4_digest ∈ gG := gI10 (List.mem_of_getElem? (i := 5) rfl)
theorem gw_222 : Cond.code yX4_digest cX4_digest 5 (some .long) ∈ gG := gI10 (List.mem_of_getElem? (i := 6) rfl)
theorem gw_223 : Cond.constantLong RX4 267 (58091) ∈ gG := gI10 (List.mem_of_getElem? (i := 7) rfl)
theorem gw_224 : Cond.methodLink RX4 269 yX4_clock ∈ gG := gI10 (List.mem_of_getElem? (i := 8) rfl)
theorem gw_225 : Cond.instanceMethod yX4_clock ∈ gG := gI10 (List.mem_of_getElem? (i := 9) rfl)
theorem gw_226 : Cond.selects RX4 yX4_clock yX4_clock ∈ gG := gI10 (List.mem_of_getElem? (i := 10) rfl)
theorem gw_227 : Cond.code yX4_clock cX4_clock 1 (some .int) ∈ gG := gI10 (List.mem_of_getElem? (i := 11) rfl)
theorem gw_228 : Cond.methodLink RX4 271 yX4_mixed ∈ gG := gI10 (List.mem_of_getElem? (i := 12) rfl)
theorem gw_229 : Cond.static yX4_mixed ∈ gG := gI10 (List.mem_of_getElem? (i := 13) rfl)
theorem gw_230 : Cond.code yX4_mixed cX4_mixed 3 (some .long) ∈ gG := gI10 (List.mem_of_getElem? (i := 14) rfl)
theorem gw_231 : Cond.constantLong RX4 297 (31) ∈ gG := gI10 (List.mem_of_getElem? (i := 15) rfl)
theorem gw_232 : Cond.methodLink RX4 275 yX4_many ∈ gG := gI10 (List.mem_of_getElem? (i := 16) rfl)
theorem gw_233 : Cond.instanceMethod yX4_many ∈ gG := gI10 (List.mem_of_getElem? (i := 17) rfl)
theorem gw_234 : Cond.selects RX4 yX4_many yX4_many ∈ gG := gI10 (List.mem_of_getElem? (i := 18) rfl)
theorem gw_235 : Cond.code yX4_many cX4_many 2 (some .int) ∈ gG := gI10 (List.mem_of_getElem? (i := 19) rfl)
theorem gw_236 : Cond.methodLink RX4 169 yX1_countDone ∈ gG := gI10 (List.mem_of_getElem? (i := 20) rfl)
theorem gw_237 : Cond.instanceMethod yX1_countDone ∈ gG := gI10 (List.mem_of_getElem? (i := 21) rfl)
theorem gw_238 : Cond.selects RX1 yX1_countDone yX1_countDone ∈ gG := gI10 (List.mem_of_getElem? (i := 22) rfl)
theorem gw_239 : Cond.code yX1_countDone cX1_countDone 3 (some .int) ∈ gG := gI10 (List.mem_of_getElem? (i := 23) rfl)
theorem gw_240 : Cond.methodLink RX1 235 yX3_isDone ∈ gG := gI11 (List.mem_of_getElem? (i := 0) rfl)
theorem gw_241 : Cond.methodLink RX4 173 yX1_countAtStations ∈ gG := gI11 (List.mem_of_getElem? (i := 1) rfl)
theorem gw_242 : Cond.instanceMethod yX1_countAtStations ∈ gG := gI11 (List.mem_of_getElem? (i := 2) rfl)
theorem gw_243 : Cond.selects RX1 yX1_countAtStations yX1_countAtStations ∈ gG := gI11 (List.mem_of_getElem? (i := 3) rfl)
theorem gw_244 : Cond.code yX1_countAtStations cX1_countAtStations 3 (some .int) ∈ gG := gI11 (List.mem_of_getElem? (i := 4) rfl)
theorem gw_245 : Cond.methodLink RX1 213 yX3_isAtStation ∈ gG := gI11 (List.mem_of_getElem? (i := 5) rfl)
theorem gw_246 : Cond.instanceMethod yX3_isAtStation ∈ gG := gI11 (List.mem_of_getElem? (i := 6) rfl)
theorem gw_247 : Cond.selects RX3 yX3_isAtStation yX3_isAtStation ∈ gG := gI11 (List.mem_of_getElem? (i := 7) rfl)
theorem gw_248 : Cond.code yX3_isAtStation cX3_isAtStation 1 (some .boolean) ∈ gG := gI11 (List.mem_of_getElem? (i := 8) rfl)
theorem gw_249 : Cond.methodLink RX4 176 yX1_countOnBlocks ∈ gG := gI11 (List.mem_of_getElem? (i := 9) rfl)
theorem gw_250 : Cond.instanceMethod yX1_countOnBlocks ∈ gG := gI11 (List.mem_of_getElem? (i := 10) rfl)
theorem gw_251 : Cond.selects RX1 yX1_countOnBlocks yX1_countOnBlocks ∈ gG := gI11 (List.mem_of_getElem? (i := 11) rfl)
theorem gw_252 : Cond.code yX1_countOnBlocks cX1_countOnBlocks 3 (some .int) ∈ gG := gI11 (List.mem_of_getElem? (i := 12) rfl)
theorem gw_253 : Cond.methodLink RX1 74 yX3_isOnBlock ∈ gG := gI11 (List.mem_of_getElem? (i := 13) rfl)
theorem gw_254 : Cond.instanceMethod yX3_isOnBlock ∈ gG := gI11 (List.mem_of_getElem? (i := 14) rfl)
theorem gw_255 : Cond.selects RX3 yX3_isOnBlock yX3_isOnBlock ∈ gG := gI11 (List.mem_of_getElem? (i := 15) rfl)
theorem gw_256 : Cond.code yX3_isOnBlock cX3_isOnBlock 1 (some .boolean) ∈ gG := gI11 (List.mem_of_getElem? (i := 16) rfl)
theorem gw_257 : Cond.methodLink RX4 179 yX1_countStuck ∈ gG := gI11 (List.mem_of_getElem? (i := 17) rfl)
theorem gw_258 : Cond.instanceMethod yX1_countStuck ∈ gG := gI11 (List.mem_of_getElem? (i := 18) rfl)
theorem gw_259 : Cond.selects RX1 yX1_countStuck yX1_countStuck ∈ gG := gI11 (List.mem_of_getElem? (i := 19) rfl)
theorem gw_260 : Cond.code yX1_countStuck cX1_countStuck 3 (some .int) ∈ gG := gI11 (List.mem_of_getElem? (i := 20) rfl)
theorem gw_261 : Cond.methodLink RX1 238 yX1_waitsForItself ∈ gG := gI11 (List.mem_of_getElem? (i := 21) rfl)
theorem gw_262 : Cond.instanceMethod yX1_waitsForItself ∈ gG := gI11 (List.mem_of_getElem? (i := 22) rfl)
theorem gw_263 : Cond.selects RX1 yX1_waitsForItself yX1_waitsForItself ∈ gG := gI11 (List.mem_of_getElem? (i := 23) rfl)
theorem gw_264 : Cond.code yX1_waitsForItself cX1_waitsForItself 4 (some .boolean) ∈ gG := gI12 (List.mem_of_getElem? (i := 0) rfl)
theorem gw_265 : Cond.fieldLink RX1 85 "SemaphoreBay$Train" "waitsFor" "I" ∈ gG := gI12 (List.mem_of_getElem? (i := 1) rfl)
theorem gw_266 : Cond.methodLink RX4 278 yX4_station ∈ gG := gI12 (List.mem_of_getElem? (i := 2) rfl)
theorem gw_267 : Cond.methodLink RX4 281 yX4_ofBlock ∈ gG := gI12 (List.mem_of_getElem? (i := 3) rfl)
theorem gw_268 : Cond.instanceMethod yX4_ofBlock ∈ gG := gI12 (List.mem_of_getElem? (i := 4) rfl)
theorem gw_269 : Cond.selects RX4 yX4_ofBlock yX4_ofBlock ∈ gG := gI12 (List.mem_of_getElem? (i := 5) rfl)
theorem gw_270 : Cond.code yX4_ofBlock cX4_ofBlock 4 (some .int) ∈ gG := gI12 (List.mem_of_getElem? (i := 6) rfl)
theorem gw_271 : Cond.fieldLink RX4 188 "SemaphoreBay$Block" "heldBy" "I" ∈ gG := gI12 (List.mem_of_getElem? (i := 7) rfl)
theorem gw_272 : Cond.fieldLink RX4 191 "SemaphoreBay$Block" "lockedFor" "I" ∈ gG := gI12 (List.mem_of_getElem? (i := 8) rfl)
theorem gw_273 : Cond.fieldLink RX4 98 "SemaphoreBay$Block" "shutTill" "I" ∈ gG := gI12 (List.mem_of_getElem? (i := 9) rfl)
theorem gw_274 : Cond.methodLink RX4 101 yX1_tillOrNone ∈ gG := gI12 (List.mem_of_getElem? (i := 10) rfl)
theorem gw_275 : Cond.instanceMethod yX1_tillOrNone ∈ gG := gI12 (List.mem_of_getElem? (i := 11) rfl)
theorem gw_276 : Cond.selects RX1 yX1_tillOrNone yX1_tillOrNone ∈ gG := gI12 (List.mem_of_getElem? (i := 12) rfl)
theorem gw_277 : Cond.code yX1_tillOrNone cX1_tillOrNone 2 (some .int) ∈ gG := gI12 (List.mem_of_getElem? (i := 13) rfl)
theorem gw_278 : Cond.fieldLink RX1 68 "SemaphoreBay$Line" "clock" "I" ∈ gG := gI12 (List.mem_of_getElem? (i := 14) rfl)
theorem gw_279 : Cond.methodLink RX4 284 yX4_mixedWithTrain ∈ gG := gI12 (List.mem_of_getElem? (i := 15) rfl)
theorem gw_280 : Cond.instanceMethod yX4_mixedWithTrain ∈ gG := gI12 (List.mem_of_getElem? (i := 16) rfl)
theorem gw_281 : Cond.selects RX4 yX4_mixedWithTrain yX4_mixedWithTrain ∈ gG := gI12 (List.mem_of_getElem? (i := 17) rfl)
theorem gw_282 : Cond.code yX4_mixedWithTrain cX4_mixedWithTrain 7 (some .long) ∈ gG := gI12 (List.mem_of_getElem? (i := 18) rfl)
theorem gw_283 : Cond.methodLink RX4 287 yX4_ofTrain ∈ gG := gI12 (List.mem_of_getElem? (i := 19) rfl)
theorem gw_284 : Cond.instanceMethod yX4_ofTrain ∈ gG := gI12 (List.mem_of_getElem? (i := 20) rfl)
theorem gw_285 : Cond.selects RX4 yX4_ofTrain yX4_ofTrain ∈ gG := gI12 (List.mem_of_getElem? (i := 21) rfl)
theorem gw_286 : Cond.code yX4_ofTrain cX4_ofTrain 4 (some .int) ∈ gG := gI12 (List.mem_of_getElem? (i := 22) rfl)
theorem gw_287 : Cond.fieldLink RX4 218 "SemaphoreBay$Train" "lastStop" "I" ∈ gG := gI12 (List.mem_of_getElem? (i := 23) rfl)
theorem gw_288 : Cond.fieldLink RX4 225 "SemaphoreBay$Train" "route" "I" ∈ gG := gI13 (List.mem_of_getElem? (i := 0) rfl)
theorem gw_289 : Cond.fieldLink RX4 228 "SemaphoreBay$Train" "left" "I" ∈ gG := gI13 (List.mem_of_getElem? (i := 1) rfl)
theorem gw_290 : Cond.fieldLink RX4 231 "SemaphoreBay$Train" "late" "I" ∈ gG := gI13 (List.mem_of_getElem? (i := 2) rfl)
theorem gw_291 : Cond.fieldLink RX4 234 "SemaphoreBay$Train" "waited" "I" ∈ gG := gI13 (List.mem_of_getElem? (i := 3) rfl)
theorem gw_292 : Cond.fieldLink RX4 163 "SemaphoreBay$Train" "heldBackTill" "I" ∈ gG := gI13 (List.mem_of_getElem? (i := 4) rfl)
theorem gw_293 : Cond.methodLink RX4 221 yX1_blockUnder ∈ gG := gI13 (List.mem_of_getElem? (i := 5) rfl)
theorem gw_294 : Cond.instanceMethod yX1_blockUnder ∈ gG := gI13 (List.mem_of_getElem? (i := 6) rfl)
theorem gw_295 : Cond.selects RX1 yX1_blockUnder yX1_blockUnder ∈ gG := gI13 (List.mem_of_getElem? (i := 7) rfl)
theorem gw_296 : Cond.code yX1_blockUnder cX1_blockUnder 3 (some .int) ∈ gG := gI13 (List.mem_of_getElem? (i := 8) rfl)
theorem gw_297 : Cond.fieldLink RX1 94 "SemaphoreBay$Train" "place" "I" ∈ gG := gI13 (List.mem_of_getElem? (i := 9) rfl)
theorem gw_298 : Cond.methodLink RX4 237 yX1_isReady ∈ gG := gI13 (List.mem_of_getElem? (i := 10) rfl)
theorem gw_299 : Cond.instanceMethod yX1_isReady ∈ gG := gI13 (List.mem_of_getElem? (i := 11) rfl)
theorem gw_300 : Cond.selects RX1 yX1_isReady yX1_isReady ∈ gG := gI13 (List.mem_of_getElem? (i := 12) rfl)
theorem gw_301 : Cond.code yX1_isReady cX1_isReady 2 (some .boolean) ∈ gG := gI13 (List.mem_of_getElem? (i := 13) rfl)
theorem gw_302 : Cond.fieldLink RX1 125 "SemaphoreBay$Train" "lastStop" "I" ∈ gG := gI13 (List.mem_of_getElem? (i := 14) rfl)
theorem gw_303 : Cond.fieldLink RX1 128 "SemaphoreBay$Train" "cameAt" "I" ∈ gG := gI13 (List.mem_of_getElem? (i := 15) rfl)
theorem gw_304 : Cond.fieldLink RX1 216 "SemaphoreBay$Train" "heldBackTill" "I" ∈ gG := gI13 (List.mem_of_getElem? (i := 16) rfl)
theorem gw_305 : Cond.methodLink RX1 131 yX3_isAtLastStop ∈ gG := gI13 (List.mem_of_getElem? (i := 17) rfl)
theorem gw_306 : Cond.instanceMethod yX3_isAtLastStop ∈ gG := gI13 (List.mem_of_getElem? (i := 18) rfl)
theorem gw_307 : Cond.selects RX3 yX3_isAtLastStop yX3_isAtLastStop ∈ gG := gI13 (List.mem_of_getElem? (i := 19) rfl)
theorem gw_308 : Cond.code yX3_isAtLastStop cX3_isAtLastStop 1 (some .boolean) ∈ gG := gI13 (List.mem_of_getElem? (i := 20) rfl)
theorem gw_309 : Cond.fieldLink RX3 46 "SemaphoreBay$Train" "lastStop" "I" ∈ gG := gI13 (List.mem_of_getElem? (i := 21) rfl)
theorem gw_310 : Cond.methodLink RX1 176 yX3_timeOf ∈ gG := gI13 (List.mem_of_getElem? (i := 22) rfl)
theorem gw_311 : Cond.methodLink RX4 241 yX3_isAtEndOfBlock ∈ gG := gI13 (List.mem_of_getElem? (i := 23) rfl)
theorem gw_312 : Cond.instanceMethod yX3_isAtEndOfBlock ∈ gG := gI14 (List.mem_of_getElem? (i := 0) rfl)
theorem gw_313 : Cond.selects RX3 yX3_isAtEndOfBlock yX3_isAtEndOfBlock ∈ gG := gI14 (List.mem_of_getElem? (i := 1) rfl)
theorem gw_314 : Cond.code yX3_isAtEndOfBlock cX3_isAtEndOfBlock 1 (some .boolean) ∈ gG := gI14 (List.mem_of_getElem? (i := 2) rfl)
theorem gw_315 : Cond.fieldLink RX3 55 "SemaphoreBay$Train" "left" "I" ∈ gG := gI14 (List.mem_of_getElem? (i := 3) rfl)
theorem gw_316 : Cond.methodLink RX4 290 yX4_waitsFor ∈ gG := gI14 (List.mem_of_getElem? (i := 4) rfl)
theorem gw_317 : Cond.instanceMethod yX4_waitsFor ∈ gG := gI14 (List.mem_of_getElem? (i := 5) rfl)
theorem gw_318 : Cond.selects RX4 yX4_waitsFor yX4_waitsFor ∈ gG := gI14 (List.mem_of_getElem? (i := 6) rfl)
theorem gw_319 : Cond.code yX4_waitsFor cX4_waitsFor 2 (some .int) ∈ gG := gI14 (List.mem_of_getElem? (i := 7) rfl)
theorem gw_320 : Cond.fieldLink RX4 247 "SemaphoreBay$Train" "waitsFor" "I" ∈ gG := gI14 (List.mem_of_getElem? (i := 8) rfl)
theorem gw_321 : Cond.methodLink RX4 292 yX4_isStuck ∈ gG := gI14 (List.mem_of_getElem? (i := 9) rfl)
theorem gw_322 : Cond.instanceMethod yX4_isStuck ∈ gG := gI14 (List.mem_of_getElem? (i := 10) rfl)
theorem gw_323 : Cond.selects RX4 yX4_isStuck yX4_isStuck ∈ gG := gI14 (List.mem_of_getElem? (i := 11) rfl)
theorem gw_324 : Cond.code yX4_isStuck cX4_isStuck 2 (some .boolean) ∈ gG := gI14 (List.mem_of_getElem? (i := 12) rfl)
theorem gw_325 : Cond.methodLink RX4 250 yX1_waitsForItself ∈ gG := gI14 (List.mem_of_getElem? (i := 13) rfl)
theorem gw_326 : Cond.methodLink RX4 295 yX4_waitedFor ∈ gG := gI14 (List.mem_of_getElem? (i := 14) rfl)
theorem gw_327 : Cond.instanceMethod yX4_waitedFor ∈ gG := gI14 (List.mem_of_getElem? (i := 15) rfl)
theorem gw_328 : Cond.selects RX4 yX4_waitedFor yX4_waitedFor ∈ gG := gI14 (List.mem_of_getElem? (i := 16) rfl)
theorem gw_329 : Cond.code yX4_waitedFor cX4_waitedFor 3 (some .int) ∈ gG := gI14 (List.mem_of_getElem? (i := 17) rfl)
theorem gw_330 : Cond.fieldLink RX4 244 "SemaphoreBay$Train" "waitedFor" "[I" ∈ gG := gI14 (List.mem_of_getElem? (i := 18) rfl)
theorem gw_331 : Cond.methodLink RL 61 yX4_stuckIn ∈ gG := gI14 (List.mem_of_getElem? (i := 19) rfl)
theorem gw_332 : Cond.instanceMethod yX4_stuckIn ∈ gG := gI14 (List.mem_of_getElem? (i := 20) rfl)
theorem gw_333 : Cond.selects RX4 yX4_stuckIn yX4_stuckIn ∈ gG := gI14 (List.mem_of_getElem? (i := 21) rfl)
theorem gw_334 : Cond.code yX4_stuckIn cX4_stuckIn 3 (some .int) ∈ gG := gI14 (List.mem_of_getElem? (i := 22) rfl)
theorem gw_335 : Cond.methodLink RX4 260 yX1_takeFrom ∈ gG := gI14 (List.mem_of_getElem? (i := 23) rfl)
theorem gw_336 : Cond.instanceMethod yX1_takeFrom ∈ gG := gI15 (List.mem_of_getElem? (i := 0) rfl)
theorem gw_337 : Cond.selects RX1 yX1_takeFrom yX1_takeFrom ∈ gG := gI15 (List.mem_of_getElem? (i := 1) rfl)
theorem gw_338 : Cond.code yX1_takeFrom cX1_takeFrom 3 none ∈ gG := gI15 (List.mem_of_getElem? (i := 2) rfl)
theorem gw_339 : Cond.methodLink RX1 40 arraycopyName ∈ gG := gI15 (List.mem_of_getElem? (i := 3) rfl)
theorem gw_340 : Cond.native arraycopyName ∈ gG := gI15 (List.mem_of_getElem? (i := 4) rfl)
theorem gw_341 : Cond.static arraycopyName ∈ gG := gI15 (List.mem_of_getElem? (i := 5) rfl)
theorem gw_342 : Cond.initialized "java/lang/System" ∈ gG := gI15 (List.mem_of_getElem? (i := 6) rfl)
theorem gw_343 : Cond.fieldLink RX1 65 "SemaphoreBay$Line" "order" "I" ∈ gG := gI15 (List.mem_of_getElem? (i := 7) rfl)
theorem gw_344 : Cond.methodLink RX1 49 yX0_takeFrom ∈ gG := gI15 (List.mem_of_getElem? (i := 8) rfl)
theorem gw_345 : Cond.instanceMethod yX0_takeFrom ∈ gG := gI15 (List.mem_of_getElem? (i := 9) rfl)
theorem gw_346 : Cond.selects RX0 yX0_takeFrom yX0_takeFrom ∈ gG := gI15 (List.mem_of_getElem? (i := 10) rfl)
theorem gw_347 : Cond.code yX0_takeFrom cX0_takeFrom 2 none ∈ gG := gI15 (List.mem_of_getElem? (i := 11) rfl)
theorem gw_348 : Cond.fieldLink RX0 18 "SemaphoreBay$Block" "length" "I" ∈ gG := gI15 (List.mem_of_getElem? (i := 12) rfl)
theorem gw_349 : Cond.fieldLink RX0 21 "SemaphoreBay$Block" "shutTill" "I" ∈ gG := gI15 (List.mem_of_getElem? (i := 13) rfl)
theorem gw_350 : Cond.methodLink RX1 56 yX2_takeFrom ∈ gG := gI15 (List.mem_of_getElem? (i := 14) rfl)
theorem gw_351 : Cond.instanceMethod yX2_takeFrom ∈ gG := gI15 (List.mem_of_getElem? (i := 15) rfl)
theorem gw_352 : Cond.selects RX2 yX2_takeFrom yX2_takeFrom ∈ gG := gI15 (List.mem_of_getElem? (i := 16) rfl)
theorem gw_353 : Cond.code yX2_takeFrom cX2_takeFrom 3 none ∈ gG := gI15 (List.mem_of_getElem? (i := 17) rfl)
theorem gw_354 : Cond.methodLink RX2 29 yX2_lay ∈ gG := gI15 (List.mem_of_getElem? (i := 18) rfl)
theorem gw_355 : Cond.methodLink RX2 37 yX2_addBlock ∈ gG := gI15 (List.mem_of_getElem? (i := 19) rfl)
theorem gw_356 : Cond.methodLink RX1 62 yX3_takeFrom ∈ gG := gI15 (List.mem_of_getElem? (i := 20) rfl)
theorem gw_357 : Cond.instanceMethod yX3_takeFrom ∈ gG := gI15 (List.mem_of_getElem? (i := 21) rfl)
theorem gw_358 : Cond.selects RX3 yX3_takeFrom yX3_takeFrom ∈ gG := gI15 (List.mem_of_getElem? (i := 22) rfl)
theorem gw_359 : Cond.code yX3_takeFrom cX3_takeFrom 2 none ∈ gG := gI15 (List.mem_of_getElem? (i := 23) rfl)
theorem gw_360 : Cond.fieldLink RX3 31 "SemaphoreBay$Train" "rank" "I" ∈ gG := gI16 (List.mem_of_getElem? (i := 0) rfl)
theorem gw_361 : Cond.fieldLink RX3 34 "SemaphoreBay$Train" "pace" "I" ∈ gG := gI16 (List.mem_of_getElem? (i := 1) rfl)
theorem gw_362 : Cond.methodLink RX3 40 arraycopyName ∈ gG := gI16 (List.mem_of_getElem? (i := 2) rfl)
theorem gw_363 : Cond.fieldLink RX3 49 "SemaphoreBay$Train" "cameAt" "I" ∈ gG := gI16 (List.mem_of_getElem? (i := 3) rfl)
theorem gw_364 : Cond.fieldLink RX3 52 "SemaphoreBay$Train" "place" "I" ∈ gG := gI16 (List.mem_of_getElem? (i := 4) rfl)
theorem gw_365 : Cond.fieldLink RX3 58 "SemaphoreBay$Train" "heldBackTill" "I" ∈ gG := gI16 (List.mem_of_getElem? (i := 5) rfl)
theorem gw_366 : Cond.fieldLink RX3 61 "SemaphoreBay$Train" "late" "I" ∈ gG := gI16 (List.mem_of_getElem? (i := 6) rfl)
theorem gw_367 : Cond.fieldLink RX3 64 "SemaphoreBay$Train" "waited" "I" ∈ gG := gI16 (List.mem_of_getElem? (i := 7) rfl)
theorem gw_368 : Cond.methodLink RX4 166 yX1_passTicks ∈ gG := gI16 (List.mem_of_getElem? (i := 8) rfl)
theorem gw_369 : Cond.instanceMethod yX1_passTicks ∈ gG := gI16 (List.mem_of_getElem? (i := 9) rfl)
theorem gw_370 : Cond.selects RX1 yX1_passTicks yX1_passTicks ∈ gG := gI16 (List.mem_of_getElem? (i := 10) rfl)
theorem gw_371 : Cond.code yX1_passTicks cX1_passTicks 4 none ∈ gG := gI16 (List.mem_of_getElem? (i := 11) rfl)
theorem gw_372 : Cond.methodLink RX1 71 yX1_forgetWhoWaits ∈ gG := gI16 (List.mem_of_getElem? (i := 12) rfl)
theorem gw_373 : Cond.instanceMethod yX1_forgetWhoWaits ∈ gG := gI16 (List.mem_of_getElem? (i := 13) rfl)
theorem gw_374 : Cond.selects RX1 yX1_forgetWhoWaits yX1_forgetWhoWaits ∈ gG := gI16 (List.mem_of_getElem? (i := 14) rfl)
theorem gw_375 : Cond.code yX1_forgetWhoWaits cX1_forgetWhoWaits 2 none ∈ gG := gI16 (List.mem_of_getElem? (i := 15) rfl)
theorem gw_376 : Cond.methodLink RX1 78 yX1_roll ∈ gG := gI16 (List.mem_of_getElem? (i := 16) rfl)
theorem gw_377 : Cond.instanceMethod yX1_roll ∈ gG := gI16 (List.mem_of_getElem? (i := 17) rfl)
theorem gw_378 : Cond.selects RX1 yX1_roll yX1_roll ∈ gG := gI16 (List.mem_of_getElem? (i := 18) rfl)
theorem gw_379 : Cond.code yX1_roll cX1_roll 5 none ∈ gG := gI16 (List.mem_of_getElem? (i := 19) rfl)
theorem gw_380 : Cond.fieldLink RX1 88 "SemaphoreBay$Train" "left" "I" ∈ gG := gI16 (List.mem_of_getElem? (i := 20) rfl)
theorem gw_381 : Cond.methodLink RX1 100 yX1_comeToStation ∈ gG := gI16 (List.mem_of_getElem? (i := 21) rfl)
theorem gw_382 : Cond.instanceMethod yX1_comeToStation ∈ gG := gI16 (List.mem_of_getElem? (i := 22) rfl)
theorem gw_383 : Cond.selects RX1 yX1_comeToStation yX1_comeToStation ∈ gG := gI16 (List.mem_of_getElem? (i := 23) rfl)
theorem gw_384 : Cond.code yX1_comeToStation cX1_comeToStation 2 none ∈ gG := gI17 (List.mem_of_getElem? (i := 0) rfl)
theorem gw_385 : Cond.methodLink RX1 111 yX1_leaveBlock ∈ gG := gI17 (List.mem_of_getElem? (i := 1) rfl)
theorem gw_386 : Cond.instanceMethod yX1_leaveBlock ∈ gG := gI17 (List.mem_of_getElem? (i := 2) rfl)
theorem gw_387 : Cond.selects RX1 yX1_leaveBlock yX1_leaveBlock ∈ gG := gI17 (List.mem_of_getElem? (i := 3) rfl)
theorem gw_388 : Cond.code yX1_leaveBlock cX1_leaveBlock 3 none ∈ gG := gI17 (List.mem_of_getElem? (i := 4) rfl)
theorem gw_389 : Cond.fieldLink RX1 147 "SemaphoreBay$Block" "heldBy" "I" ∈ gG := gI17 (List.mem_of_getElem? (i := 5) rfl)
theorem gw_390 : Cond.methodLink RX1 143 yX1_blockUnder ∈ gG := gI17 (List.mem_of_getElem? (i := 6) rfl)
theorem gw_391 : Cond.methodLink RX1 134 yX3_beLate ∈ gG := gI17 (List.mem_of_getElem? (i := 7) rfl)
theorem gw_392 : Cond.instanceMethod yX3_beLate ∈ gG := gI17 (List.mem_of_getElem? (i := 8) rfl)
theorem gw_393 : Cond.selects RX3 yX3_beLate yX3_beLate ∈ gG := gI17 (List.mem_of_getElem? (i := 9) rfl)
theorem gw_394 : Cond.code yX3_beLate cX3_beLate 2 none ∈ gG := gI17 (List.mem_of_getElem? (i := 10) rfl)
theorem gw_395 : Cond.methodLink RX3 71 Lib.Math.max.name ∈ gG := gI17 (List.mem_of_getElem? (i := 11) rfl)
theorem gw_396 : Cond.static Lib.Math.max.name ∈ gG := gI17 (List.mem_of_getElem? (i := 12) rfl)
theorem gw_397 : Cond.initialized "java/lang/Math" ∈ gG := gI17 (List.mem_of_getElem? (i := 13) rfl)
theorem gw_398 : Cond.code Lib.Math.max.name Lib.Math.max.code 2 (some .int) ∈ gG := gI17 (List.mem_of_getElem? (i := 14) rfl)
theorem gw_399 : Cond.methodLink RX3 67 yX3_timeOf ∈ gG := gI17 (List.mem_of_getElem? (i := 15) rfl)
theorem gw_400 : Cond.methodLink RX1 137 yX3_stationOf ∈ gG := gI17 (List.mem_of_getElem? (i := 16) rfl)
theorem gw_401 : Cond.methodLink RX1 107 yX1_isClearFor ∈ gG := gI17 (List.mem_of_getElem? (i := 17) rfl)
theorem gw_402 : Cond.instanceMethod yX1_isClearFor ∈ gG := gI17 (List.mem_of_getElem? (i := 18) rfl)
theorem gw_403 : Cond.selects RX1 yX1_isClearFor yX1_isClearFor ∈ gG := gI17 (List.mem_of_getElem? (i := 19) rfl)
theorem gw_404 : Cond.code yX1_isClearFor cX1_isClearFor 5 (some .boolean) ∈ gG := gI17 (List.mem_of_getElem? (i := 20) rfl)
theorem gw_405 : Cond.fieldLink RX1 156 "SemaphoreBay$Block" "lockedFor" "I" ∈ gG := gI17 (List.mem_of_getElem? (i := 21) rfl)
theorem gw_406 : Cond.fieldLink RX1 226 "SemaphoreBay$Block" "shutTill" "I" ∈ gG := gI17 (List.mem_of_getElem? (i := 22) rfl)
theorem gw_407 : Cond.methodLink RX1 114 yX1_enter ∈ gG := gI17 (List.mem_of_getElem? (i := 23) rfl)
theorem gw_408 : Cond.instanceMethod yX1_enter ∈ gG := gI18 (List.mem_of_getElem? (i := 0) rfl)
theorem gw_409 : Cond.selects RX1 yX1_enter yX1_enter ∈ gG := gI18 (List.mem_of_getElem? (i := 1) rfl)
theorem gw_410 : Cond.code yX1_enter cX1_enter 6 none ∈ gG := gI18 (List.mem_of_getElem? (i := 2) rfl)
theorem gw_411 : Cond.fieldLink RX1 153 "SemaphoreBay$Train" "pace" "I" ∈ gG := gI18 (List.mem_of_getElem? (i := 3) rfl)
theorem gw_412 : Cond.methodLink RX1 118 yX1_trainInTheWay ∈ gG := gI18 (List.mem_of_getElem? (i := 4) rfl)
theorem gw_413 : Cond.instanceMethod yX1_trainInTheWay ∈ gG := gI18 (List.mem_of_getElem? (i := 5) rfl)
theorem gw_414 : Cond.selects RX1 yX1_trainInTheWay yX1_trainInTheWay ∈ gG := gI18 (List.mem_of_getElem? (i := 6) rfl)
theorem gw_415 : Cond.code yX1_trainInTheWay cX1_trainInTheWay 4 (some .int) ∈ gG := gI18 (List.mem_of_getElem? (i := 7) rfl)
theorem gw_416 : Cond.methodLink RX1 122 yX3_waitOneTick ∈ gG := gI18 (List.mem_of_getElem? (i := 8) rfl)
theorem gw_417 : Cond.instanceMethod yX3_waitOneTick ∈ gG := gI18 (List.mem_of_getElem? (i := 9) rfl)
theorem gw_418 : Cond.selects RX3 yX3_waitOneTick yX3_waitOneTick ∈ gG := gI18 (List.mem_of_getElem? (i := 10) rfl)
theorem gw_419 : Cond.code yX3_waitOneTick cX3_waitOneTick 2 none ∈ gG := gI18 (List.mem_of_getElem? (i := 11) rfl)
theorem gw_420 : Cond.methodLink RX1 82 yX1_giveTurns ∈ gG := gI18 (List.mem_of_getElem? (i := 12) rfl)
theorem gw_421 : Cond.instanceMethod yX1_giveTurns ∈ gG := gI18 (List.mem_of_getElem? (i := 13) rfl)
theorem gw_422 : Cond.selects RX1 yX1_giveTurns yX1_giveTurns ∈ gG := gI18 (List.mem_of_getElem? (i := 14) rfl)
theorem gw_423 : Cond.code yX1_giveTurns cX1_giveTurns 4 none ∈ gG := gI18 (List.mem_of_getElem? (i := 15) rfl)
theorem gw_424 : Cond.methodLink RX1 159 yX1_firstReady ∈ gG := gI18 (List.mem_of_getElem? (i := 16) rfl)
theorem gw_425 : Cond.instanceMethod yX1_firstReady ∈ gG := gI18 (List.mem_of_getElem? (i := 17) rfl)
theorem gw_426 : Cond.selects RX1 yX1_firstReady yX1_firstReady ∈ gG := gI18 (List.mem_of_getElem? (i := 18) rfl)
theorem gw_427 : Cond.code yX1_firstReady cX1_firstReady 5 (some .int) ∈ gG := gI18 (List.mem_of_getElem? (i := 19) rfl)
theorem gw_428 : Cond.methodLink RX1 165 yX1_isReady ∈ gG := gI18 (List.mem_of_getElem? (i := 20) rfl)
theorem gw_429 : Cond.methodLink RX1 169 yX1_goesAhead ∈ gG := gI18 (List.mem_of_getElem? (i := 21) rfl)
theorem gw_430 : Cond.instanceMethod yX1_goesAhead ∈ gG := gI18 (List.mem_of_getElem? (i := 22) rfl)
theorem gw_431 : Cond.selects RX1 yX1_goesAhead yX1_goesAhead ∈ gG := gI18 (List.mem_of_getElem? (i := 23) rfl)
theorem gw_432 : Cond.code yX1_goesAhead cX1_goesAhead 3 (some .boolean) ∈ gG := gI19 (List.mem_of_getElem? (i := 0) rfl)
theorem gw_433 : Cond.fieldLink RX1 173 "SemaphoreBay$Train" "rank" "I" ∈ gG := gI19 (List.mem_of_getElem? (i := 1) rfl)
theorem gw_434 : Cond.methodLink RX1 162 yX1_takeTurn ∈ gG := gI19 (List.mem_of_getElem? (i := 2) rfl)
theorem gw_435 : Cond.instanceMethod yX1_takeTurn ∈ gG := gI19 (List.mem_of_getElem? (i := 3) rfl)
theorem gw_436 : Cond.selects RX1 yX1_takeTurn yX1_takeTurn ∈ gG := gI19 (List.mem_of_getElem? (i := 4) rfl)
theorem gw_437 : Cond.code yX1_takeTurn cX1_takeTurn 4 none ∈ gG := gI19 (List.mem_of_getElem? (i := 5) rfl)
theorem gw_438 : Cond.methodLink RX1 179 yX1_leadsOn ∈ gG := gI19 (List.mem_of_getElem? (i := 6) rfl)
theorem gw_439 : Cond.instanceMethod yX1_leadsOn ∈ gG := gI19 (List.mem_of_getElem? (i := 7) rfl)
theorem gw_440 : Cond.selects RX1 yX1_leadsOn yX1_leadsOn ∈ gG := gI19 (List.mem_of_getElem? (i := 8) rfl)
theorem gw_441 : Cond.code yX1_leadsOn cX1_leadsOn 3 (some .boolean) ∈ gG := gI19 (List.mem_of_getElem? (i := 9) rfl)
theorem gw_442 : Cond.methodLink RX1 195 yX2_joins ∈ gG := gI19 (List.mem_of_getElem? (i := 10) rfl)
theorem gw_443 : Cond.instanceMethod yX2_joins ∈ gG := gI19 (List.mem_of_getElem? (i := 11) rfl)
theorem gw_444 : Cond.selects RX2 yX2_joins yX2_joins ∈ gG := gI19 (List.mem_of_getElem? (i := 12) rfl)
theorem gw_445 : Cond.code yX2_joins cX2_joins 3 (some .boolean) ∈ gG := gI19 (List.mem_of_getElem? (i := 13) rfl)
theorem gw_446 : Cond.methodLink RX1 183 yX1_isOpenFor ∈ gG := gI19 (List.mem_of_getElem? (i := 14) rfl)
theorem gw_447 : Cond.instanceMethod yX1_isOpenFor ∈ gG := gI19 (List.mem_of_getElem? (i := 15) rfl)
theorem gw_448 : Cond.selects RX1 yX1_isOpenFor yX1_isOpenFor ∈ gG := gI19 (List.mem_of_getElem? (i := 16) rfl)
theorem gw_449 : Cond.code yX1_isOpenFor cX1_isOpenFor 3 (some .boolean) ∈ gG := gI19 (List.mem_of_getElem? (i := 17) rfl)
theorem gw_450 : Cond.methodLink RX1 222 yX1_hasRoom ∈ gG := gI19 (List.mem_of_getElem? (i := 18) rfl)
theorem gw_451 : Cond.methodLink RX1 206 yX1_firstNotClear ∈ gG := gI19 (List.mem_of_getElem? (i := 19) rfl)
theorem gw_452 : Cond.instanceMethod yX1_firstNotClear ∈ gG := gI19 (List.mem_of_getElem? (i := 20) rfl)
theorem gw_453 : Cond.selects RX1 yX1_firstNotClear yX1_firstNotClear ∈ gG := gI19 (List.mem_of_getElem? (i := 21) rfl)
theorem gw_454 : Cond.code yX1_firstNotClear cX1_firstNotClear 4 (some .int) ∈ gG := gI19 (List.mem_of_getElem? (i := 22) rfl)
theorem gw_455 : Cond.methodLink RX1 209 yX2_countToBeClear ∈ gG := gI19 (List.mem_of_getElem? (i := 23) rfl)
theorem gw_456 : Cond.instanceMethod yX2_countToBeClear ∈ gG := gI20 (List.mem_of_getElem? (i := 0) rfl)
theorem gw_457 : Cond.selects RX2 yX2_countToBeClear yX2_countToBeClear ∈ gG := gI20 (List.mem_of_getElem? (i := 1) rfl)
theorem gw_458 : Cond.code yX2_countToBeClear cX2_countToBeClear 1 (some .int) ∈ gG := gI20 (List.mem_of_getElem? (i := 2) rfl)
theorem gw_459 : Cond.methodLink RX1 187 yX1_setOut ∈ gG := gI20 (List.mem_of_getElem? (i := 3) rfl)
theorem gw_460 : Cond.instanceMethod yX1_setOut ∈ gG := gI20 (List.mem_of_getElem? (i := 4) rfl)
theorem gw_461 : Cond.selects RX1 yX1_setOut yX1_setOut ∈ gG := gI20 (List.mem_of_getElem? (i := 5) rfl)
theorem gw_462 : Cond.code yX1_setOut cX1_setOut 3 none ∈ gG := gI20 (List.mem_of_getElem? (i := 6) rfl)
theorem gw_463 : Cond.fieldLink RX1 198 "SemaphoreBay$Route" "isWhole" "Z" ∈ gG := gI20 (List.mem_of_getElem? (i := 7) rfl)
theorem gw_464 : Cond.methodLink RX1 202 yX1_lockRest ∈ gG := gI20 (List.mem_of_getElem? (i := 8) rfl)
theorem gw_465 : Cond.instanceMethod yX1_lockRest ∈ gG := gI20 (List.mem_of_getElem? (i := 9) rfl)
theorem gw_466 : Cond.selects RX1 yX1_lockRest yX1_lockRest ∈ gG := gI20 (List.mem_of_getElem? (i := 10) rfl)
theorem gw_467 : Cond.code yX1_lockRest cX1_lockRest 5 none ∈ gG := gI20 (List.mem_of_getElem? (i := 11) rfl)
theorem gw_468 : Cond.methodLink RX1 191 yX1_blameOn ∈ gG := gI20 (List.mem_of_getElem? (i := 12) rfl)
theorem gw_469 : Cond.instanceMethod yX1_blameOn ∈ gG := gI20 (List.mem_of_getElem? (i := 13) rfl)
theorem gw_470 : Cond.selects RX1 yX1_blameOn yX1_blameOn ∈ gG := gI20 (List.mem_of_getElem? (i := 14) rfl)
theorem gw_471 : Cond.code yX1_blameOn cX1_blameOn 3 (some .int) ∈ gG := gI20 (List.mem_of_getElem? (i := 15) rfl)
theorem gw_472 : Cond.methodLink RL 64 yX4_doneIn ∈ gG := gI20 (List.mem_of_getElem? (i := 16) rfl)
theorem gw_473 : Cond.instanceMethod yX4_doneIn ∈ gG := gI20 (List.mem_of_getElem? (i := 17) rfl)
theorem gw_474 : Cond.selects RX4 yX4_doneIn yX4_doneIn ∈ gG := gI20 (List.mem_of_getElem? (i := 18) rfl)
theorem gw_475 : Cond.code yX4_doneIn cX4_doneIn 4 (some .int) ∈ gG := gI20 (List.mem_of_getElem? (i := 19) rfl)
theorem gw_476 : Cond.methodLink RL 67 yX4_tick ∈ gG := gI20 (List.mem_of_getElem? (i := 20) rfl)
theorem gw_477 : Cond.instanceMethod yX4_tick ∈ gG := gI20 (List.mem_of_getElem? (i := 21) rfl)
theorem gw_478 : Cond.selects RX4 yX4_tick yX4_tick ∈ gG := gI20 (List.mem_of_getElem? (i := 22) rfl)
theorem gw_479 : Cond.code yX4_tick cX4_tick 2 (some .int) ∈ gG := gI20 (List.mem_of_getElem? (i := 23) rfl)
theorem gw_480 : Cond.methodLink RL 70 yX4_many ∈ gG := gI21 (List.mem_of_getElem? (i := 0) rfl)
theorem gw_481 : Cond.methodLink RL 73 yX4_ofTrain ∈ gG := gI21 (List.mem_of_getElem? (i := 1) rfl)
theorem gw_482 : Cond.methodLink RL 76 yX4_ofBlock ∈ gG := gI21 (List.mem_of_getElem? (i := 2) rfl)
theorem gw_483 : Cond.methodLink RL 79 yX4_isStuck ∈ gG := gI21 (List.mem_of_getElem? (i := 3) rfl)
theorem gw_484 : Cond.methodLink RL 83 yX4_waitsFor ∈ gG := gI21 (List.mem_of_getElem? (i := 4) rfl)
theorem gw_485 : Cond.methodLink RL 86 yX4_waitedFor ∈ gG := gI21 (List.mem_of_getElem? (i := 5) rfl)
theorem gG_good : gG.all goodWord = true := by decide +kernel
theorem gsub (ws : List Cond) (ps : List Nat) (hp : ws = ps.filterMap (fun i => lw_tbl[i]?)) : ∀ w ∈ ws, w ∈ lw_tbl := by
  intro w hw
  rw [hp] at hw
  obtain ⟨i, -, hi⟩ := List.mem_filterMap.mp hw
  exact List.mem_of_getElem? hi
set_option maxRecDepth 20000 in
theorem gP1 : ∀ w ∈ gG1, w ∈ lw_tbl := gsub _ [35, 36, 22, 81, 37, 38, 39, 40, 41, 42, 43, 44, 23, 228, 229, 45, 46, 47, 48, 187, 49, 189, 51, 193] (by rfl)
set_option maxRecDepth 20000 in
theorem gP2 : ∀ w ∈ gG2, w ∈ lw_tbl := gsub _ [53, 197, 203, 55, 24, 82, 25, 110, 26, 57, 58, 59, 63, 66, 84, 85, 86, 98, 112, 113, 114, 123, 124, 128] (by rfl)
set_option maxRecDepth 20000 in
theorem gP3 : ∀ w ∈ gG3, w ∈ lw_tbl := gsub _ [134, 149, 152, 695, 696, 21, 697, 698, 691, 692, 693, 694, 235, 236, 237, 238, 310, 31, 192, 190, 61, 239, 240, 241] (by rfl)
set_option maxRecDepth 20000 in
theorem gP4 : ∀ w ∈ gG4, w ∈ lw_tbl := gsub _ [242, 30, 326, 327, 328, 329, 196, 194, 330, 331, 332, 333, 334, 335, 336, 32, 352, 354, 1, 355, 358, 359, 360, 361] (by rfl)
set_option maxRecDepth 20000 in
theorem gP5 : ∀ w ∈ gG5, w ∈ lw_tbl := gsub _ [87, 89, 92, 95, 362, 363, 364, 365, 599, 600, 601, 602, 88, 90, 96, 94, 370, 372, 2, 373, 603, 604, 605, 606] (by rfl)
set_option maxRecDepth 20000 in
theorem gP6 : ∀ w ∈ gG6, w ∈ lw_tbl := gsub _ [607, 608, 609, 97, 191, 62, 467, 379, 380, 381, 594, 595, 596, 597, 598, 366, 367, 368, 369, 374, 375, 376, 377, 378] (by rfl)
set_option maxRecDepth 20000 in
theorem gP7 : ∀ w ∈ gG7, w ∈ lw_tbl := gsub _ [383, 384, 385, 386, 199, 135, 580, 581, 582, 583, 188, 584, 401, 402, 403, 129, 585, 405, 406, 407, 195, 91, 392, 393] (by rfl)
set_option maxRecDepth 20000 in
theorem gP8 : ∀ w ∈ gG8, w ∈ lw_tbl := gsub _ [394, 395, 200, 198, 116, 120, 130, 206, 133, 396, 397, 398, 399, 400, 404, 409, 410, 411, 412, 121, 620, 621, 622, 623] (by rfl)
set_option maxRecDepth 20000 in
theorem gP9 : ∀ w ∈ gG9, w ∈ lw_tbl := gsub _ [122, 417, 419, 3, 420, 421, 422, 423, 424, 425, 426, 427, 428, 413, 414, 415, 416, 430, 431, 432, 433, 388, 389, 390] (by rfl)
set_option maxRecDepth 20000 in
theorem gP10 : ∀ w ∈ gG10, w ∈ lw_tbl := gsub _ [391, 202, 204, 667, 668, 669, 670, 671, 672, 673, 674, 675, 676, 677, 678, 679, 680, 561, 562, 563, 555, 556, 557, 558] (by rfl)
set_option maxRecDepth 20000 in
theorem gP11 : ∀ w ∈ gG11, w ∈ lw_tbl := gsub _ [559, 564, 565, 566, 567, 509, 510, 511, 512, 568, 569, 570, 571, 447, 448, 449, 450, 572, 573, 574, 575, 576, 577, 578] (by rfl)
set_option maxRecDepth 20000 in
theorem gP12 : ∀ w ∈ gG12, w ∈ lw_tbl := gsub _ [579, 150, 681, 682, 587, 588, 589, 65, 68, 70, 590, 591, 592, 593, 205, 683, 685, 20, 686, 687, 611, 612, 613, 127] (by rfl)
set_option maxRecDepth 20000 in
theorem gP13 : ∀ w ∈ gG13, w ∈ lw_tbl := gsub _ [136, 141, 146, 148, 144, 614, 464, 465, 466, 138, 615, 506, 507, 508, 126, 132, 143, 468, 469, 470, 471, 125, 513, 616] (by rfl)
set_option maxRecDepth 20000 in
theorem gP14 : ∀ w ∈ gG14, w ∈ lw_tbl := gsub _ [617, 618, 619, 139, 688, 629, 630, 631, 151, 689, 633, 634, 635, 636, 690, 625, 626, 627, 153, 663, 664, 665, 666, 641] (by rfl)
set_option maxRecDepth 20000 in
theorem gP15 : ∀ w ∈ gG15, w ∈ lw_tbl := gsub _ [642, 643, 644, 645, 647, 646, 33, 201, 648, 649, 650, 651, 60, 69, 652, 653, 654, 655, 656, 657, 658, 659, 660, 661] (by rfl)
set_option maxRecDepth 20000 in
theorem gP16 : ∀ w ∈ gG16, w ∈ lw_tbl := gsub _ [115, 118, 662, 131, 137, 142, 145, 147, 439, 440, 441, 442, 443, 445, 4, 446, 451, 453, 5, 454, 140, 455, 457, 6] (by rfl)
set_option maxRecDepth 20000 in
theorem gP17 : ∀ w ∈ gG17, w ∈ lw_tbl := gsub _ [458, 459, 461, 7, 462, 64, 463, 472, 473, 474, 475, 477, 478, 34, 479, 476, 480, 481, 483, 8, 484, 67, 71, 485] (by rfl)
set_option maxRecDepth 20000 in
theorem gP18 : ∀ w ∈ gG18, w ∈ lw_tbl := gsub _ [487, 9, 488, 119, 489, 491, 10, 492, 493, 494, 495, 496, 497, 499, 11, 500, 501, 503, 12, 504, 505, 514, 516, 13] (by rfl)
set_option maxRecDepth 20000 in
theorem gP19 : ∀ w ∈ gG19, w ∈ lw_tbl := gsub _ [517, 117, 518, 520, 14, 521, 522, 524, 15, 525, 526, 527, 528, 529, 530, 531, 532, 533, 534, 535, 537, 16, 538, 539] (by rfl)
set_option maxRecDepth 20000 in
theorem gP20 : ∀ w ∈ gG20, w ∈ lw_tbl := gsub _ [540, 541, 542, 543, 545, 17, 546, 93, 547, 549, 18, 550, 551, 553, 19, 554, 637, 638, 639, 640, 435, 436, 437, 438] (by rfl)
set_option maxRecDepth 20000 in
theorem gP21 : ∀ w ∈ gG21, w ∈ lw_tbl := gsub _ [560, 610, 586, 632, 628, 624] (by rfl)
set_option maxRecDepth 20000 in
theorem gQ0 : ∀ w ∈ wsX00, w ∈ lw_tbl := by decide +kernel
set_option maxRecDepth 20000 in
theorem gQ1 : ∀ w ∈ wsX10, w ∈ lw_tbl := by decide +kernel
set_option maxRecDepth 20000 in
theorem gQ2 : ∀ w ∈ wsX20, w ∈ lw_tbl := by decide +kernel
set_option maxRecDepth 20000 in
theorem gQ3 : ∀ w ∈ wsX30, w ∈ lw_tbl := by decide +kernel
set_option maxRecDepth 20000 in
theorem gQ4 : ∀ w ∈ wsX40, w ∈ lw_tbl := by decide +kernel
theorem gG_in : ∀ w ∈ gG, w ∈ lw_tbl := fun w h => (List.mem_append.mp h).elim (fun h => (List.mem_append.mp h).elim (fun h => gP1 w h) (fun h => (List.mem_append.mp h).elim (fun h => gP2 w h) (fun h => (List.mem_append.mp h).elim (fun h => gP3 w h) (fun h => (List.mem_append.mp h).elim (fun h => gP4 w h) (fun h => (List.mem_append.mp h).elim (fun h => gP5 w h) (fun h => (List.mem_append.mp h).elim (fun h => gP6 w h) (fun h => (List.mem_append.mp h).elim (fun h => gP7 w h) (fun h => (List.mem_append.mp h).elim (fun h => gP8 w h) (fun h => (List.mem_append.mp h).elim (fun h => gP9 w h) (fun h => (List.mem_append.mp h).elim (fun h => gP10 w h) (fun h => (List.mem_append.mp h).elim (fun h => gP11 w h) (fun h => (List.mem_append.mp h).elim (fun h => gP12 w h) (fun h => (List.mem_append.mp h).elim (fun h => gP13 w h) (fun h => (List.mem_append.mp h).elim (fun h => gP14 w h) (fun h => (List.mem_append.mp h).elim (fun h => gP15 w h) (fun h => (List.mem_append.mp h).elim (fun h => gP16 w h) (fun h => (List.mem_append.mp h).elim (fun h => gP17 w h) (fun h => (List.mem_append.mp h).elim (fun h => gP18 w h) (fun h => (List.mem_append.mp h).elim (fun h => gP19 w h) (fun h => (List.mem_append.mp h).elim (fun h => gP20 w h) (fun h => gP21 w h))))))))))))))))))))) (fun h => (List.mem_append.mp h).elim (fun h => gQ4 w h) (fun h => (List.mem_append.mp h).elim (fun h => gQ1 w h) (fun h => (List.mem_append.mp h).elim (fun h => gQ0 w h) (fun h => (List.mem_append.mp h).elim (fun h => gQ2 w h) (fun h => gQ3 w h)))))
