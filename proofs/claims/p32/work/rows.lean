section
-- ===== PART A: goes FIRST, ahead of the names: the tables' words, and 'selects' of the private methods out of them =====
/-- a private method of a class that the tables say can be made, by its rows of tables_1 -/
def lw_okq (q : MethodName × Nat) : Prop := (q.1.cls ≠ "java/lang/invoke/MethodHandle" ∧ q.1.cls ≠ "java/lang/invoke/VarHandle") ∧ Cond.instantiable q.1.cls q.2 ∈ tables_1 ∧ Cond.privateMethod q.1 ∈ tables_1 ∧ Cond.instanceMethod q.1 ∈ tables_1
theorem lw_p0 : lw_okq (⟨"java/lang/Throwable", "fillInStackTrace", "(I)Ljava/lang/Throwable;"⟩, 6) := ⟨⟨by decide +kernel, by decide +kernel⟩, List.mem_of_getElem? (i := 260) (by decide +kernel), List.mem_of_getElem? (i := 258) (by decide +kernel), List.mem_of_getElem? (i := 259) (by decide +kernel)⟩
theorem lw_p1 : lw_okq (⟨"SemaphoreBay", "needBlock", "(I)V"⟩, 2) := ⟨⟨by decide +kernel, by decide +kernel⟩, List.mem_of_getElem? (i := 15) (by decide +kernel), List.mem_of_getElem? (i := 332) (by decide +kernel), List.mem_of_getElem? (i := 333) (by decide +kernel)⟩
theorem lw_p2 : lw_okq (⟨"SemaphoreBay", "needRoute", "(I)V"⟩, 2) := ⟨⟨by decide +kernel, by decide +kernel⟩, List.mem_of_getElem? (i := 15) (by decide +kernel), List.mem_of_getElem? (i := 350) (by decide +kernel), List.mem_of_getElem? (i := 351) (by decide +kernel)⟩
theorem lw_p3 : lw_okq (⟨"SemaphoreBay", "needTrain", "(I)V"⟩, 2) := ⟨⟨by decide +kernel, by decide +kernel⟩, List.mem_of_getElem? (i := 15) (by decide +kernel), List.mem_of_getElem? (i := 397) (by decide +kernel), List.mem_of_getElem? (i := 398) (by decide +kernel)⟩
theorem lw_p4 : lw_okq (⟨"SemaphoreBay$Line", "forgetWhoWaits", "()V"⟩, 10) := ⟨⟨by decide +kernel, by decide +kernel⟩, List.mem_of_getElem? (i := 23) (by decide +kernel), List.mem_of_getElem? (i := 423) (by decide +kernel), List.mem_of_getElem? (i := 424) (by decide +kernel)⟩
theorem lw_p5 : lw_okq (⟨"SemaphoreBay$Line", "roll", "(I)V"⟩, 10) := ⟨⟨by decide +kernel, by decide +kernel⟩, List.mem_of_getElem? (i := 23) (by decide +kernel), List.mem_of_getElem? (i := 431) (by decide +kernel), List.mem_of_getElem? (i := 432) (by decide +kernel)⟩
theorem lw_p6 : lw_okq (⟨"SemaphoreBay$Line", "comeToStation", "(LSemaphoreBay$Train;)V"⟩, 10) := ⟨⟨by decide +kernel, by decide +kernel⟩, List.mem_of_getElem? (i := 23) (by decide +kernel), List.mem_of_getElem? (i := 435) (by decide +kernel), List.mem_of_getElem? (i := 436) (by decide +kernel)⟩
theorem lw_p7 : lw_okq (⟨"SemaphoreBay$Line", "leaveBlock", "(LSemaphoreBay$Train;)V"⟩, 10) := ⟨⟨by decide +kernel, by decide +kernel⟩, List.mem_of_getElem? (i := 23) (by decide +kernel), List.mem_of_getElem? (i := 439) (by decide +kernel), List.mem_of_getElem? (i := 440) (by decide +kernel)⟩
theorem lw_p8 : lw_okq (⟨"SemaphoreBay$Line", "isClearFor", "(II)Z"⟩, 10) := ⟨⟨by decide +kernel, by decide +kernel⟩, List.mem_of_getElem? (i := 23) (by decide +kernel), List.mem_of_getElem? (i := 461) (by decide +kernel), List.mem_of_getElem? (i := 462) (by decide +kernel)⟩
theorem lw_p9 : lw_okq (⟨"SemaphoreBay$Line", "enter", "(III)V"⟩, 10) := ⟨⟨by decide +kernel, by decide +kernel⟩, List.mem_of_getElem? (i := 23) (by decide +kernel), List.mem_of_getElem? (i := 465) (by decide +kernel), List.mem_of_getElem? (i := 466) (by decide +kernel)⟩
theorem lw_p10 : lw_okq (⟨"SemaphoreBay$Line", "trainInTheWay", "(II)I"⟩, 10) := ⟨⟨by decide +kernel, by decide +kernel⟩, List.mem_of_getElem? (i := 23) (by decide +kernel), List.mem_of_getElem? (i := 469) (by decide +kernel), List.mem_of_getElem? (i := 470) (by decide +kernel)⟩
theorem lw_p11 : lw_okq (⟨"SemaphoreBay$Line", "giveTurns", "()V"⟩, 10) := ⟨⟨by decide +kernel, by decide +kernel⟩, List.mem_of_getElem? (i := 23) (by decide +kernel), List.mem_of_getElem? (i := 477) (by decide +kernel), List.mem_of_getElem? (i := 478) (by decide +kernel)⟩
theorem lw_p12 : lw_okq (⟨"SemaphoreBay$Line", "firstReady", "(I)I"⟩, 10) := ⟨⟨by decide +kernel, by decide +kernel⟩, List.mem_of_getElem? (i := 23) (by decide +kernel), List.mem_of_getElem? (i := 481) (by decide +kernel), List.mem_of_getElem? (i := 482) (by decide +kernel)⟩
theorem lw_p13 : lw_okq (⟨"SemaphoreBay$Line", "goesAhead", "(LSemaphoreBay$Train;LSemaphoreBay$Train;)Z"⟩, 10) := ⟨⟨by decide +kernel, by decide +kernel⟩, List.mem_of_getElem? (i := 23) (by decide +kernel), List.mem_of_getElem? (i := 494) (by decide +kernel), List.mem_of_getElem? (i := 495) (by decide +kernel)⟩
theorem lw_p14 : lw_okq (⟨"SemaphoreBay$Line", "takeTurn", "(I)V"⟩, 10) := ⟨⟨by decide +kernel, by decide +kernel⟩, List.mem_of_getElem? (i := 23) (by decide +kernel), List.mem_of_getElem? (i := 498) (by decide +kernel), List.mem_of_getElem? (i := 499) (by decide +kernel)⟩
theorem lw_p15 : lw_okq (⟨"SemaphoreBay$Line", "leadsOn", "(LSemaphoreBay$Route;LSemaphoreBay$Train;)Z"⟩, 10) := ⟨⟨by decide +kernel, by decide +kernel⟩, List.mem_of_getElem? (i := 23) (by decide +kernel), List.mem_of_getElem? (i := 502) (by decide +kernel), List.mem_of_getElem? (i := 503) (by decide +kernel)⟩
def lw_privs_1 : List (MethodName × Nat) := [(⟨"java/lang/Throwable", "fillInStackTrace", "(I)Ljava/lang/Throwable;"⟩, 6), (⟨"SemaphoreBay", "needBlock", "(I)V"⟩, 2), (⟨"SemaphoreBay", "needRoute", "(I)V"⟩, 2), (⟨"SemaphoreBay", "needTrain", "(I)V"⟩, 2), (⟨"SemaphoreBay$Line", "forgetWhoWaits", "()V"⟩, 10), (⟨"SemaphoreBay$Line", "roll", "(I)V"⟩, 10), (⟨"SemaphoreBay$Line", "comeToStation", "(LSemaphoreBay$Train;)V"⟩, 10), (⟨"SemaphoreBay$Line", "leaveBlock", "(LSemaphoreBay$Train;)V"⟩, 10), (⟨"SemaphoreBay$Line", "isClearFor", "(II)Z"⟩, 10), (⟨"SemaphoreBay$Line", "enter", "(III)V"⟩, 10), (⟨"SemaphoreBay$Line", "trainInTheWay", "(II)I"⟩, 10), (⟨"SemaphoreBay$Line", "giveTurns", "()V"⟩, 10), (⟨"SemaphoreBay$Line", "firstReady", "(I)I"⟩, 10), (⟨"SemaphoreBay$Line", "goesAhead", "(LSemaphoreBay$Train;LSemaphoreBay$Train;)Z"⟩, 10), (⟨"SemaphoreBay$Line", "takeTurn", "(I)V"⟩, 10), (⟨"SemaphoreBay$Line", "leadsOn", "(LSemaphoreBay$Route;LSemaphoreBay$Train;)Z"⟩, 10)]
theorem lw_r1 : ∀ q ∈ lw_privs_1, lw_okq q := List.forall_mem_cons.mpr ⟨lw_p0, List.forall_mem_cons.mpr ⟨lw_p1, List.forall_mem_cons.mpr ⟨lw_p2, List.forall_mem_cons.mpr ⟨lw_p3, List.forall_mem_cons.mpr ⟨lw_p4, List.forall_mem_cons.mpr ⟨lw_p5, List.forall_mem_cons.mpr ⟨lw_p6, List.forall_mem_cons.mpr ⟨lw_p7, List.forall_mem_cons.mpr ⟨lw_p8, List.forall_mem_cons.mpr ⟨lw_p9, List.forall_mem_cons.mpr ⟨lw_p10, List.forall_mem_cons.mpr ⟨lw_p11, List.forall_mem_cons.mpr ⟨lw_p12, List.forall_mem_cons.mpr ⟨lw_p13, List.forall_mem_cons.mpr ⟨lw_p14, List.forall_mem_cons.mpr ⟨lw_p15, fun _ h => absurd h List.not_mem_nil⟩⟩⟩⟩⟩⟩⟩⟩⟩⟩⟩⟩⟩⟩⟩⟩
theorem lw_p16 : lw_okq (⟨"SemaphoreBay$Line", "firstNotClear", "(LSemaphoreBay$Route;I)I"⟩, 10) := ⟨⟨by decide +kernel, by decide +kernel⟩, List.mem_of_getElem? (i := 23) (by decide +kernel), List.mem_of_getElem? (i := 515) (by decide +kernel), List.mem_of_getElem? (i := 516) (by decide +kernel)⟩
theorem lw_p17 : lw_okq (⟨"SemaphoreBay$Line", "setOut", "(II)V"⟩, 10) := ⟨⟨by decide +kernel, by decide +kernel⟩, List.mem_of_getElem? (i := 23) (by decide +kernel), List.mem_of_getElem? (i := 523) (by decide +kernel), List.mem_of_getElem? (i := 524) (by decide +kernel)⟩
theorem lw_p18 : lw_okq (⟨"SemaphoreBay$Line", "lockRest", "(ILSemaphoreBay$Route;)V"⟩, 10) := ⟨⟨by decide +kernel, by decide +kernel⟩, List.mem_of_getElem? (i := 23) (by decide +kernel), List.mem_of_getElem? (i := 527) (by decide +kernel), List.mem_of_getElem? (i := 528) (by decide +kernel)⟩
theorem lw_p19 : lw_okq (⟨"SemaphoreBay$Line", "blameOn", "(LSemaphoreBay$Route;I)I"⟩, 10) := ⟨⟨by decide +kernel, by decide +kernel⟩, List.mem_of_getElem? (i := 23) (by decide +kernel), List.mem_of_getElem? (i := 531) (by decide +kernel), List.mem_of_getElem? (i := 532) (by decide +kernel)⟩
theorem lw_p20 : lw_okq (⟨"SemaphoreBay", "mixedWithTrain", "(JI)J"⟩, 2) := ⟨⟨by decide +kernel, by decide +kernel⟩, List.mem_of_getElem? (i := 15) (by decide +kernel), List.mem_of_getElem? (i := 663) (by decide +kernel), List.mem_of_getElem? (i := 664) (by decide +kernel)⟩
def lw_privs_2 : List (MethodName × Nat) := [(⟨"SemaphoreBay$Line", "firstNotClear", "(LSemaphoreBay$Route;I)I"⟩, 10), (⟨"SemaphoreBay$Line", "setOut", "(II)V"⟩, 10), (⟨"SemaphoreBay$Line", "lockRest", "(ILSemaphoreBay$Route;)V"⟩, 10), (⟨"SemaphoreBay$Line", "blameOn", "(LSemaphoreBay$Route;I)I"⟩, 10), (⟨"SemaphoreBay", "mixedWithTrain", "(JI)J"⟩, 2)]
theorem lw_r2 : ∀ q ∈ lw_privs_2, lw_okq q := List.forall_mem_cons.mpr ⟨lw_p16, List.forall_mem_cons.mpr ⟨lw_p17, List.forall_mem_cons.mpr ⟨lw_p18, List.forall_mem_cons.mpr ⟨lw_p19, List.forall_mem_cons.mpr ⟨lw_p20, fun _ h => absurd h List.not_mem_nil⟩⟩⟩⟩⟩
def lw_privs : List (MethodName × Nat) := lw_privs_1 ++ (lw_privs_2)
def lw_tbl : List Cond := k2_sels lw_privs ++ tables_1
theorem lw_privs_ok : ∀ q ∈ lw_privs, lw_okq q := by
  show ∀ q ∈ lw_privs_1 ++ (lw_privs_2), lw_okq q
  exact List.forall_mem_append.mpr ⟨lw_r1, lw_r2⟩
end
section
-- names, fields, decode rows: out of the printed names; one list of words for all methods
def RX0 : String := "SemaphoreBay$Block"
def TX0 : u_T := fun k => match k with
  | 0 => ("SemaphoreBay$Block", "length", "I", false)
  | 1 => ("SemaphoreBay$Block", "heldBy", "I", false)
  | 2 => ("SemaphoreBay$Block", "lockedFor", "I", false)
  | _ => ("SemaphoreBay$Block", "shutTill", "I", false)
def tyX0 : Nat → FieldType := fun k => match k with
  | 0 => .int
  | 1 => .int
  | 2 => .int
  | _ => .int
abbrev wsX00 : List Cond := u_ws RX0 TX0 4
theorem nmX0 : ∀ a, a < 4 → ∀ b, b < 4 → a ≠ b → (TX0 a).2.1 ≠ (TX0 b).2.1 := by decide +kernel
theorem tyX0_ok : ∀ k, k < 4 → parseFieldDescriptor (TX0 k).2.2.1 = some (tyX0 k) := by decide +kernel
abbrev cX0_init : ByteArray := prog_2_method_1_code
def yX0_init : MethodName := ⟨RX0, "<init>", "()V"⟩
abbrev cX0_takeFrom : ByteArray := prog_2_method_2_code
def yX0_takeFrom : MethodName := ⟨RX0, "takeFrom", "(LSemaphoreBay$Block;)V"⟩
def RX1 : String := "SemaphoreBay$Line"
def TX1 : u_T := fun k => match k with
  | 0 => ("SemaphoreBay$Line", "platforms", "[I", true)
  | 1 => ("SemaphoreBay$Line", "blocks", "[LSemaphoreBay$Block;", true)
  | 2 => ("SemaphoreBay$Line", "blockCount", "I", false)
  | 3 => ("SemaphoreBay$Line", "routes", "[LSemaphoreBay$Route;", true)
  | 4 => ("SemaphoreBay$Line", "routeCount", "I", false)
  | 5 => ("SemaphoreBay$Line", "trains", "[LSemaphoreBay$Train;", true)
  | 6 => ("SemaphoreBay$Line", "trainCount", "I", false)
  | 7 => ("SemaphoreBay$Line", "order", "I", false)
  | 8 => ("SemaphoreBay$Line", "stay", "I", false)
  | _ => ("SemaphoreBay$Line", "clock", "I", false)
def tyX1 : Nat → FieldType := fun k => match k with
  | 0 => .array .int
  | 1 => .array (.object "SemaphoreBay$Block")
  | 2 => .int
  | 3 => .array (.object "SemaphoreBay$Route")
  | 4 => .int
  | 5 => .array (.object "SemaphoreBay$Train")
  | 6 => .int
  | 7 => .int
  | 8 => .int
  | _ => .int
abbrev wsX10 : List Cond := u_ws RX1 TX1 10
theorem nmX1 : ∀ a, a < 10 → ∀ b, b < 10 → a ≠ b → (TX1 a).2.1 ≠ (TX1 b).2.1 := by decide +kernel
theorem tyX1_ok : ∀ k, k < 10 → parseFieldDescriptor (TX1 k).2.2.1 = some (tyX1 k) := by decide +kernel
abbrev cX1_init : ByteArray := prog_3_method_1_code
def yX1_init : MethodName := ⟨RX1, "<init>", "()V"⟩
abbrev cX1_takeFrom : ByteArray := prog_3_method_2_code
def yX1_takeFrom : MethodName := ⟨RX1, "takeFrom", "(LSemaphoreBay$Line;)V"⟩
abbrev cX1_passTicks : ByteArray := prog_3_method_3_code
def yX1_passTicks : MethodName := ⟨RX1, "passTicks", "(I)V"⟩
abbrev cX1_forgetWhoWaits : ByteArray := prog_3_method_4_code
def yX1_forgetWhoWaits : MethodName := ⟨RX1, "forgetWhoWaits", "()V"⟩
abbrev cX1_roll : ByteArray := prog_3_method_5_code
def yX1_roll : MethodName := ⟨RX1, "roll", "(I)V"⟩
abbrev cX1_comeToStation : ByteArray := prog_3_method_6_code
def yX1_comeToStation : MethodName := ⟨RX1, "comeToStation", "(LSemaphoreBay$Train;)V"⟩
abbrev cX1_leaveBlock : ByteArray := prog_3_method_7_code
def yX1_leaveBlock : MethodName := ⟨RX1, "leaveBlock", "(LSemaphoreBay$Train;)V"⟩
abbrev cX1_enter : ByteArray := prog_3_method_8_code
def yX1_enter : MethodName := ⟨RX1, "enter", "(III)V"⟩
abbrev cX1_giveTurns : ByteArray := prog_3_method_9_code
def yX1_giveTurns : MethodName := ⟨RX1, "giveTurns", "()V"⟩
abbrev cX1_firstReady : ByteArray := prog_3_method_10_code
def yX1_firstReady : MethodName := ⟨RX1, "firstReady", "(I)I"⟩
abbrev cX1_goesAhead : ByteArray := prog_3_method_11_code
def yX1_goesAhead : MethodName := ⟨RX1, "goesAhead", "(LSemaphoreBay$Train;LSemaphoreBay$Train;)Z"⟩
abbrev cX1_takeTurn : ByteArray := prog_3_method_12_code
def yX1_takeTurn : MethodName := ⟨RX1, "takeTurn", "(I)V"⟩
abbrev cX1_leadsOn : ByteArray := prog_3_method_13_code
def yX1_leadsOn : MethodName := ⟨RX1, "leadsOn", "(LSemaphoreBay$Route;LSemaphoreBay$Train;)Z"⟩
abbrev cX1_setOut : ByteArray := prog_3_method_14_code
def yX1_setOut : MethodName := ⟨RX1, "setOut", "(II)V"⟩
abbrev cX1_lockRest : ByteArray := prog_3_method_15_code
def yX1_lockRest : MethodName := ⟨RX1, "lockRest", "(ILSemaphoreBay$Route;)V"⟩
abbrev cX1_blameOn : ByteArray := prog_3_method_16_code
def yX1_blameOn : MethodName := ⟨RX1, "blameOn", "(LSemaphoreBay$Route;I)I"⟩
abbrev cX1_firstNotClear : ByteArray := prog_3_method_17_code
def yX1_firstNotClear : MethodName := ⟨RX1, "firstNotClear", "(LSemaphoreBay$Route;I)I"⟩
abbrev cX1_isReady : ByteArray := prog_3_method_18_code
def yX1_isReady : MethodName := ⟨RX1, "isReady", "(LSemaphoreBay$Train;)Z"⟩
abbrev cX1_isOpenFor : ByteArray := prog_3_method_19_code
def yX1_isOpenFor : MethodName := ⟨RX1, "isOpenFor", "(LSemaphoreBay$Route;I)Z"⟩
abbrev cX1_isClearFor : ByteArray := prog_3_method_20_code
def yX1_isClearFor : MethodName := ⟨RX1, "isClearFor", "(II)Z"⟩
abbrev cX1_trainInTheWay : ByteArray := prog_3_method_21_code
def yX1_trainInTheWay : MethodName := ⟨RX1, "trainInTheWay", "(II)I"⟩
abbrev cX1_hasRoom : ByteArray := prog_3_method_22_code
def yX1_hasRoom : MethodName := ⟨RX1, "hasRoom", "(I)Z"⟩
abbrev cX1_isInUse : ByteArray := prog_3_method_23_code
def yX1_isInUse : MethodName := ⟨RX1, "isInUse", "(I)Z"⟩
abbrev cX1_waitsForItself : ByteArray := prog_3_method_24_code
def yX1_waitsForItself : MethodName := ⟨RX1, "waitsForItself", "(I)Z"⟩
abbrev cX1_tillOrNone : ByteArray := prog_3_method_25_code
def yX1_tillOrNone : MethodName := ⟨RX1, "tillOrNone", "(I)I"⟩
abbrev cX1_blockUnder : ByteArray := prog_3_method_27_code
def yX1_blockUnder : MethodName := ⟨RX1, "blockUnder", "(LSemaphoreBay$Train;)I"⟩
abbrev cX1_lengthOf : ByteArray := prog_3_method_28_code
def yX1_lengthOf : MethodName := ⟨RX1, "lengthOf", "(LSemaphoreBay$Route;)I"⟩
abbrev cX1_countAt : ByteArray := prog_3_method_29_code
def yX1_countAt : MethodName := ⟨RX1, "countAt", "(I)I"⟩
abbrev cX1_countOnTheWayTo : ByteArray := prog_3_method_30_code
def yX1_countOnTheWayTo : MethodName := ⟨RX1, "countOnTheWayTo", "(I)I"⟩
abbrev cX1_countDone : ByteArray := prog_3_method_31_code
def yX1_countDone : MethodName := ⟨RX1, "countDone", "()I"⟩
abbrev cX1_countAtStations : ByteArray := prog_3_method_32_code
def yX1_countAtStations : MethodName := ⟨RX1, "countAtStations", "()I"⟩
abbrev cX1_countOnBlocks : ByteArray := prog_3_method_33_code
def yX1_countOnBlocks : MethodName := ⟨RX1, "countOnBlocks", "()I"⟩
abbrev cX1_countStuck : ByteArray := prog_3_method_34_code
def yX1_countStuck : MethodName := ⟨RX1, "countStuck", "()I"⟩
def RX2 : String := "SemaphoreBay$Route"
def TX2 : u_T := fun k => match k with
  | 0 => ("SemaphoreBay$Route", "from", "I", false)
  | 1 => ("SemaphoreBay$Route", "to", "I", false)
  | 2 => ("SemaphoreBay$Route", "isWhole", "Z", false)
  | 3 => ("SemaphoreBay$Route", "count", "I", false)
  | _ => ("SemaphoreBay$Route", "blocks", "[I", true)
def tyX2 : Nat → FieldType := fun k => match k with
  | 0 => .int
  | 1 => .int
  | 2 => .boolean
  | 3 => .int
  | _ => .array .int
abbrev wsX20 : List Cond := u_ws RX2 TX2 5
theorem nmX2 : ∀ a, a < 5 → ∀ b, b < 5 → a ≠ b → (TX2 a).2.1 ≠ (TX2 b).2.1 := by decide +kernel
theorem tyX2_ok : ∀ k, k < 5 → parseFieldDescriptor (TX2 k).2.2.1 = some (tyX2 k) := by decide +kernel
abbrev cX2_init : ByteArray := prog_4_method_1_code
def yX2_init : MethodName := ⟨RX2, "<init>", "()V"⟩
abbrev cX2_lay : ByteArray := prog_4_method_2_code
def yX2_lay : MethodName := ⟨RX2, "lay", "(IIZ)V"⟩
abbrev cX2_takeFrom : ByteArray := prog_4_method_3_code
def yX2_takeFrom : MethodName := ⟨RX2, "takeFrom", "(LSemaphoreBay$Route;)V"⟩
abbrev cX2_addBlock : ByteArray := prog_4_method_4_code
def yX2_addBlock : MethodName := ⟨RX2, "addBlock", "(I)V"⟩
abbrev cX2_blockAt : ByteArray := prog_4_method_5_code
def yX2_blockAt : MethodName := ⟨RX2, "blockAt", "(I)I"⟩
abbrev cX2_hasBlock : ByteArray := prog_4_method_6_code
def yX2_hasBlock : MethodName := ⟨RX2, "hasBlock", "(I)Z"⟩
abbrev cX2_joins : ByteArray := prog_4_method_7_code
def yX2_joins : MethodName := ⟨RX2, "joins", "(II)Z"⟩
abbrev cX2_countToBeClear : ByteArray := prog_4_method_8_code
def yX2_countToBeClear : MethodName := ⟨RX2, "countToBeClear", "()I"⟩
def RX3 : String := "SemaphoreBay$Train"
def TX3 : u_T := fun k => match k with
  | 0 => ("SemaphoreBay$Train", "rank", "I", false)
  | 1 => ("SemaphoreBay$Train", "pace", "I", false)
  | 2 => ("SemaphoreBay$Train", "stops", "I", false)
  | 3 => ("SemaphoreBay$Train", "stations", "[I", true)
  | 4 => ("SemaphoreBay$Train", "times", "[I", true)
  | 5 => ("SemaphoreBay$Train", "lastStop", "I", false)
  | 6 => ("SemaphoreBay$Train", "station", "I", false)
  | 7 => ("SemaphoreBay$Train", "cameAt", "I", false)
  | 8 => ("SemaphoreBay$Train", "route", "I", false)
  | 9 => ("SemaphoreBay$Train", "place", "I", false)
  | 10 => ("SemaphoreBay$Train", "left", "I", false)
  | 11 => ("SemaphoreBay$Train", "heldBackTill", "I", false)
  | 12 => ("SemaphoreBay$Train", "late", "I", false)
  | 13 => ("SemaphoreBay$Train", "waited", "I", false)
  | 14 => ("SemaphoreBay$Train", "waitsFor", "I", false)
  | _ => ("SemaphoreBay$Train", "waitedFor", "[I", true)
def tyX3 : Nat → FieldType := fun k => match k with
  | 0 => .int
  | 1 => .int
  | 2 => .int
  | 3 => .array .int
  | 4 => .array .int
  | 5 => .int
  | 6 => .int
  | 7 => .int
  | 8 => .int
  | 9 => .int
  | 10 => .int
  | 11 => .int
  | 12 => .int
  | 13 => .int
  | 14 => .int
  | _ => .array .int
abbrev wsX30 : List Cond := u_ws RX3 TX3 16
theorem nmX3 : ∀ a, a < 16 → ∀ b, b < 16 → a ≠ b → (TX3 a).2.1 ≠ (TX3 b).2.1 := by decide +kernel
theorem tyX3_ok : ∀ k, k < 16 → parseFieldDescriptor (TX3 k).2.2.1 = some (tyX3 k) := by decide +kernel
abbrev cX3_init : ByteArray := prog_5_method_1_code
def yX3_init : MethodName := ⟨RX3, "<init>", "()V"⟩
abbrev cX3_takeFrom : ByteArray := prog_5_method_2_code
def yX3_takeFrom : MethodName := ⟨RX3, "takeFrom", "(LSemaphoreBay$Train;)V"⟩
abbrev cX3_addStop : ByteArray := prog_5_method_3_code
def yX3_addStop : MethodName := ⟨RX3, "addStop", "(II)V"⟩
abbrev cX3_stationOf : ByteArray := prog_5_method_4_code
def yX3_stationOf : MethodName := ⟨RX3, "stationOf", "(I)I"⟩
abbrev cX3_timeOf : ByteArray := prog_5_method_5_code
def yX3_timeOf : MethodName := ⟨RX3, "timeOf", "(I)I"⟩
abbrev cX3_isOnBlock : ByteArray := prog_5_method_6_code
def yX3_isOnBlock : MethodName := ⟨RX3, "isOnBlock", "()Z"⟩
abbrev cX3_isAtEndOfBlock : ByteArray := prog_5_method_7_code
def yX3_isAtEndOfBlock : MethodName := ⟨RX3, "isAtEndOfBlock", "()Z"⟩
abbrev cX3_isAtStation : ByteArray := prog_5_method_8_code
def yX3_isAtStation : MethodName := ⟨RX3, "isAtStation", "()Z"⟩
abbrev cX3_isDone : ByteArray := prog_5_method_9_code
def yX3_isDone : MethodName := ⟨RX3, "isDone", "()Z"⟩
abbrev cX3_isAtLastStop : ByteArray := prog_5_method_10_code
def yX3_isAtLastStop : MethodName := ⟨RX3, "isAtLastStop", "()Z"⟩
abbrev cX3_beLate : ByteArray := prog_5_method_11_code
def yX3_beLate : MethodName := ⟨RX3, "beLate", "(I)V"⟩
abbrev cX3_waitOneTick : ByteArray := prog_5_method_12_code
def yX3_waitOneTick : MethodName := ⟨RX3, "waitOneTick", "(I)V"⟩
def RX4 : String := "SemaphoreBay"
def TX4 : u_T := fun k => match k with
  | 0 => ("SemaphoreBay", "line", "LSemaphoreBay$Line;", true)
  | _ => ("SemaphoreBay", "trial", "LSemaphoreBay$Line;", true)
def tyX4 : Nat → FieldType := fun k => match k with
  | 0 => .object "SemaphoreBay$Line"
  | _ => .object "SemaphoreBay$Line"
abbrev wsX40 : List Cond := u_ws RX4 TX4 2
theorem nmX4 : ∀ a, a < 2 → ∀ b, b < 2 → a ≠ b → (TX4 a).2.1 ≠ (TX4 b).2.1 := by decide +kernel
theorem tyX4_ok : ∀ k, k < 2 → parseFieldDescriptor (TX4 k).2.2.1 = some (tyX4 k) := by decide +kernel
abbrev cX4_init : ByteArray := prog_1_method_1_code
def yX4_init : MethodName := ⟨RX4, "<init>", "()V"⟩
abbrev cX4_block : ByteArray := prog_1_method_3_code
def yX4_block : MethodName := ⟨RX4, "block", "(I)I"⟩
abbrev cX4_route : ByteArray := prog_1_method_4_code
def yX4_route : MethodName := ⟨RX4, "route", "(IIIZ)I"⟩
abbrev cX4_over : ByteArray := prog_1_method_5_code
def yX4_over : MethodName := ⟨RX4, "over", "(II)I"⟩
abbrev cX4_order : ByteArray := prog_1_method_7_code
def yX4_order : MethodName := ⟨RX4, "order", "(II)I"⟩
abbrev cX4_train : ByteArray := prog_1_method_8_code
def yX4_train : MethodName := ⟨RX4, "train", "(IIII)I"⟩
abbrev cX4_stop : ByteArray := prog_1_method_9_code
def yX4_stop : MethodName := ⟨RX4, "stop", "(III)I"⟩
abbrev cX4_tick : ByteArray := prog_1_method_12_code
def yX4_tick : MethodName := ⟨RX4, "tick", "(I)I"⟩
abbrev cX4_clock : ByteArray := prog_1_method_13_code
def yX4_clock : MethodName := ⟨RX4, "clock", "()I"⟩
abbrev cX4_many : ByteArray := prog_1_method_14_code
def yX4_many : MethodName := ⟨RX4, "many", "(I)I"⟩
abbrev cX4_station : ByteArray := prog_1_method_15_code
def yX4_station : MethodName := ⟨RX4, "station", "(II)I"⟩
abbrev cX4_ofBlock : ByteArray := prog_1_method_16_code
def yX4_ofBlock : MethodName := ⟨RX4, "ofBlock", "(II)I"⟩
abbrev cX4_onRoute : ByteArray := prog_1_method_17_code
def yX4_onRoute : MethodName := ⟨RX4, "onRoute", "(II)I"⟩
abbrev cX4_ofRoute : ByteArray := prog_1_method_18_code
def yX4_ofRoute : MethodName := ⟨RX4, "ofRoute", "(II)I"⟩
abbrev cX4_ofTrain : ByteArray := prog_1_method_19_code
def yX4_ofTrain : MethodName := ⟨RX4, "ofTrain", "(II)I"⟩
abbrev cX4_plan : ByteArray := prog_1_method_20_code
def yX4_plan : MethodName := ⟨RX4, "plan", "(IIZ)I"⟩
abbrev cX4_waitedFor : ByteArray := prog_1_method_21_code
def yX4_waitedFor : MethodName := ⟨RX4, "waitedFor", "(II)I"⟩
abbrev cX4_waitsFor : ByteArray := prog_1_method_22_code
def yX4_waitsFor : MethodName := ⟨RX4, "waitsFor", "(I)I"⟩
abbrev cX4_isStuck : ByteArray := prog_1_method_23_code
def yX4_isStuck : MethodName := ⟨RX4, "isStuck", "(I)Z"⟩
abbrev cX4_doneIn : ByteArray := prog_1_method_26_code
def yX4_doneIn : MethodName := ⟨RX4, "doneIn", "(II)I"⟩
abbrev cX4_stuckIn : ByteArray := prog_1_method_29_code
def yX4_stuckIn : MethodName := ⟨RX4, "stuckIn", "(I)I"⟩
abbrev cX4_digest : ByteArray := prog_1_method_30_code
def yX4_digest : MethodName := ⟨RX4, "digest", "()J"⟩
abbrev cX4_mixedWithTrain : ByteArray := prog_1_method_31_code
def yX4_mixedWithTrain : MethodName := ⟨RX4, "mixedWithTrain", "(JI)J"⟩
abbrev cX4_mixed : ByteArray := prog_1_method_32_code
def yX4_mixed : MethodName := ⟨RX4, "mixed", "(JI)J"⟩
abbrev cX4_oneIf : ByteArray := prog_1_method_33_code
def yX4_oneIf : MethodName := ⟨RX4, "oneIf", "(Z)I"⟩
abbrev cX4_needStation : ByteArray := prog_1_method_34_code
def yX4_needStation : MethodName := ⟨RX4, "needStation", "(I)V"⟩
abbrev cX4_needBlock : ByteArray := prog_1_method_35_code
def yX4_needBlock : MethodName := ⟨RX4, "needBlock", "(I)V"⟩
abbrev cX4_needRoute : ByteArray := prog_1_method_36_code
def yX4_needRoute : MethodName := ⟨RX4, "needRoute", "(I)V"⟩
abbrev cX4_needTrain : ByteArray := prog_1_method_37_code
def yX4_needTrain : MethodName := ⟨RX4, "needTrain", "(I)V"⟩
abbrev cX4_needNumber : ByteArray := prog_1_method_38_code
def yX4_needNumber : MethodName := ⟨RX4, "needNumber", "(II)V"⟩
abbrev cX4_needWithin : ByteArray := prog_1_method_39_code
def yX4_needWithin : MethodName := ⟨RX4, "needWithin", "(III)V"⟩
def RX5 : String := "SemaphoreBayModel$Bay"
def TX5 : u_T := fun k => match k with
  | _ => ("", "", "", false)
def tyX5 : Nat → FieldType := fun k => match k with
  | _ => .int
abbrev wsX50 : List Cond := u_ws RX5 TX5 0
theorem nmX5 : ∀ a, a < 0 → ∀ b, b < 0 → a ≠ b → (TX5 a).2.1 ≠ (TX5 b).2.1 := by decide +kernel
theorem tyX5_ok : ∀ k, k < 0 → parseFieldDescriptor (TX5 k).2.2.1 = some (tyX5 k) := by decide +kernel
def RX6 : String := "SemaphoreBayModel$Block"
def TX6 : u_T := fun k => match k with
  | _ => ("", "", "", false)
def tyX6 : Nat → FieldType := fun k => match k with
  | _ => .int
abbrev wsX60 : List Cond := u_ws RX6 TX6 0
theorem nmX6 : ∀ a, a < 0 → ∀ b, b < 0 → a ≠ b → (TX6 a).2.1 ≠ (TX6 b).2.1 := by decide +kernel
theorem tyX6_ok : ∀ k, k < 0 → parseFieldDescriptor (TX6 k).2.2.1 = some (tyX6 k) := by decide +kernel
def RX7 : String := "SemaphoreBayModel$Route"
def TX7 : u_T := fun k => match k with
  | _ => ("", "", "", false)
def tyX7 : Nat → FieldType := fun k => match k with
  | _ => .int
abbrev wsX70 : List Cond := u_ws RX7 TX7 0
theorem nmX7 : ∀ a, a < 0 → ∀ b, b < 0 → a ≠ b → (TX7 a).2.1 ≠ (TX7 b).2.1 := by decide +kernel
theorem tyX7_ok : ∀ k, k < 0 → parseFieldDescriptor (TX7 k).2.2.1 = some (tyX7 k) := by decide +kernel
def RX8 : String := "SemaphoreBayModel$Train"
def TX8 : u_T := fun k => match k with
  | _ => ("", "", "", false)
def tyX8 : Nat → FieldType := fun k => match k with
  | _ => .int
abbrev wsX80 : List Cond := u_ws RX8 TX8 0
theorem nmX8 : ∀ a, a < 0 → ∀ b, b < 0 → a ≠ b → (TX8 a).2.1 ≠ (TX8 b).2.1 := by decide +kernel
theorem tyX8_ok : ∀ k, k < 0 → parseFieldDescriptor (TX8 k).2.2.1 = some (tyX8 k) := by decide +kernel
def RX9 : String := "SemaphoreBayModel"
def TX9 : u_T := fun k => match k with
  | _ => ("", "", "", false)
def tyX9 : Nat → FieldType := fun k => match k with
  | _ => .int
abbrev wsX90 : List Cond := u_ws RX9 TX9 0
theorem nmX9 : ∀ a, a < 0 → ∀ b, b < 0 → a ≠ b → (TX9 a).2.1 ≠ (TX9 b).2.1 := by decide +kernel
theorem tyX9_ok : ∀ k, k < 0 → parseFieldDescriptor (TX9 k).2.2.1 = some (tyX9 k) := by decide +kernel
def RJx145de : String := "java/io/Serializable"
def RJ9 : String := "java/lang/Math"
abbrev cJ9_max_7cf53 : ByteArray := prog_16_method_65_code
def yJ9_max_7cf53 : MethodName := ⟨RJ9, "max", "(II)I"⟩
def RJ0 : String := "java/lang/String"
def RJ10 : String := "java/lang/System"
def RL : String := "SemaphoreBayLaw"
abbrev cL_below : ByteArray := method_2_code
def yL_below : MethodName := ⟨RL, "below", "(II)I"⟩
abbrev cL_cell : ByteArray := method_3_code
def yL_cell : MethodName := ⟨RL, "cell", "([II)I"⟩
abbrev cL_law : ByteArray := code
def yL_law : MethodName := ⟨RL, "law", "([I)Z"⟩
abbrev vwCl : List vw_C := [(RX0, TX0, 4), (RX1, TX1, 10), (RX2, TX2, 5), (RX3, TX3, 16), (RX4, TX4, 2)]
def gG1 : List Cond := [Cond.classLink RL 9 RX4, Cond.instantiable RX4 2, Cond.initialized RX4, Cond.arrayClass .int, Cond.methodLink RL 11 yX4_init, Cond.instanceMethod yX4_init, Cond.code yX4_init cX4_init 1 none, Cond.methodLink RX4 1 objectInit, Cond.instanceMethod objectInit, Cond.code objectInit ⟨#[0xb1]⟩ 1 none, Cond.classLink RX4 7 RX1, Cond.instantiable RX1 10, Cond.initialized RX1, Cond.fieldLink RX4 10 "SemaphoreBay" "line" "LSemaphoreBay$Line;", Cond.fieldLink RX4 16 "SemaphoreBay" "trial" "LSemaphoreBay$Line;", Cond.methodLink RX4 9 yX1_init, Cond.instanceMethod yX1_init, Cond.code yX1_init cX1_init 2 none, Cond.methodLink RX1 3 objectInit, Cond.fieldLink RX1 9 "SemaphoreBay$Line" "platforms" "[I", Cond.classLink RX1 15 RX0, Cond.fieldLink RX1 17 "SemaphoreBay$Line" "blocks" "[LSemaphoreBay$Block;", Cond.classLink RX1 21 RX2, Cond.fieldLink RX1 23 "SemaphoreBay$Line" "routes" "[LSemaphoreBay$Route;"]
def gG2 : List Cond := [Cond.classLink RX1 27 RX3, Cond.fieldLink RX1 29 "SemaphoreBay$Line" "trains" "[LSemaphoreBay$Train;", Cond.fieldLink RX1 33 "SemaphoreBay$Line" "stay" "I", Cond.instantiable RX0 4, Cond.initialized RX0, Cond.instantiable RX2 5, Cond.initialized RX2, Cond.instantiable RX3 16, Cond.initialized RX3, Cond.instanceMethod yX0_init, Cond.code yX0_init cX0_init 1 none, Cond.methodLink RX0 3 objectInit, Cond.fieldLink RX0 9 "SemaphoreBay$Block" "heldBy" "I", Cond.fieldLink RX0 15 "SemaphoreBay$Block" "lockedFor" "I", Cond.instanceMethod yX2_init, Cond.code yX2_init cX2_init 1 none, Cond.methodLink RX2 3 objectInit, Cond.fieldLink RX2 9 "SemaphoreBay$Route" "blocks" "[I", Cond.instanceMethod yX3_init, Cond.code yX3_init cX3_init 1 none, Cond.methodLink RX3 3 objectInit, Cond.fieldLink RX3 9 "SemaphoreBay$Train" "stations" "[I", Cond.fieldLink RX3 15 "SemaphoreBay$Train" "times" "[I", Cond.fieldLink RX3 18 "SemaphoreBay$Train" "station" "I"]
def gG3 : List Cond := [Cond.fieldLink RX3 22 "SemaphoreBay$Train" "route" "I", Cond.fieldLink RX3 25 "SemaphoreBay$Train" "waitsFor" "I", Cond.fieldLink RX3 28 "SemaphoreBay$Train" "waitedFor" "[I", Cond.methodLink RL 12 yL_cell, Cond.static yL_cell, Cond.initialized RL, Cond.code yL_cell cL_cell 2 (some .int), Cond.constant RL 8 (790386105), Cond.methodLink RL 18 yL_below, Cond.static yL_below, Cond.code yL_below cL_below 2 (some .int), Cond.constant RL 7 (2147483647), Cond.methodLink RL 22 yX4_block, Cond.instanceMethod yX4_block, Cond.selects RX4 yX4_block yX4_block, Cond.code yX4_block cX4_block 3 (some .int), Cond.classLink RX4 35 "java/lang/IllegalStateException", Cond.initialized "java/lang/IllegalStateException", Cond.fieldLink RX4 31 "SemaphoreBay$Line" "blockCount" "I", Cond.fieldLink RX4 42 "SemaphoreBay$Line" "blocks" "[LSemaphoreBay$Block;", Cond.fieldLink RX4 46 "SemaphoreBay$Block" "length" "I", Cond.methodLink RX4 23 yX4_needWithin, Cond.static yX4_needWithin, Cond.code yX4_needWithin cX4_needWithin 3 none]
def gG4 : List Cond := [Cond.classLink RX4 54 "java/lang/IllegalArgumentException", Cond.initialized "java/lang/IllegalArgumentException", Cond.methodLink RL 26 yX4_route, Cond.instanceMethod yX4_route, Cond.selects RX4 yX4_route yX4_route, Cond.code yX4_route cX4_route 6 (some .int), Cond.fieldLink RX4 59 "SemaphoreBay$Line" "routeCount" "I", Cond.fieldLink RX4 64 "SemaphoreBay$Line" "routes" "[LSemaphoreBay$Route;", Cond.methodLink RX4 19 yX4_needStation, Cond.static yX4_needStation, Cond.code yX4_needStation cX4_needStation 1 none, Cond.methodLink RX4 194 yX4_needNumber, Cond.static yX4_needNumber, Cond.code yX4_needNumber cX4_needNumber 2 none, Cond.classLink RX4 299 "java/lang/IndexOutOfBoundsException", Cond.initialized "java/lang/IndexOutOfBoundsException", Cond.methodLink RX4 51 yX4_needBlock, Cond.instanceMethod yX4_needBlock, Cond.selects RX4 yX4_needBlock yX4_needBlock, Cond.code yX4_needBlock cX4_needBlock 2 none, Cond.methodLink RX4 68 yX2_lay, Cond.instanceMethod yX2_lay, Cond.selects RX2 yX2_lay yX2_lay, Cond.code yX2_lay cX2_lay 4 none]
def gG5 : List Cond := [Cond.fieldLink RX2 15 "SemaphoreBay$Route" "from" "I", Cond.fieldLink RX2 19 "SemaphoreBay$Route" "to" "I", Cond.fieldLink RX2 22 "SemaphoreBay$Route" "isWhole" "Z", Cond.fieldLink RX2 26 "SemaphoreBay$Route" "count" "I", Cond.methodLink RX4 74 yX2_addBlock, Cond.instanceMethod yX2_addBlock, Cond.selects RX2 yX2_addBlock yX2_addBlock, Cond.code yX2_addBlock cX2_addBlock 2 none, Cond.methodLink RL 30 yX4_ofRoute, Cond.instanceMethod yX4_ofRoute, Cond.selects RX4 yX4_ofRoute yX4_ofRoute, Cond.code yX4_ofRoute cX4_ofRoute 4 (some .int), Cond.fieldLink RX4 200 "SemaphoreBay$Route" "from" "I", Cond.fieldLink RX4 203 "SemaphoreBay$Route" "to" "I", Cond.fieldLink RX4 86 "SemaphoreBay$Route" "count" "I", Cond.fieldLink RX4 206 "SemaphoreBay$Route" "isWhole" "Z", Cond.methodLink RX4 77 yX4_needRoute, Cond.instanceMethod yX4_needRoute, Cond.selects RX4 yX4_needRoute yX4_needRoute, Cond.code yX4_needRoute cX4_needRoute 2 none, Cond.methodLink RX4 210 yX4_oneIf, Cond.static yX4_oneIf, Cond.code yX4_oneIf cX4_oneIf 1 (some .int), Cond.methodLink RX4 214 yX1_lengthOf]
def gG6 : List Cond := [Cond.instanceMethod yX1_lengthOf, Cond.selects RX1 yX1_lengthOf yX1_lengthOf, Cond.code yX1_lengthOf cX1_lengthOf 5 (some .int), Cond.fieldLink RX1 97 "SemaphoreBay$Route" "count" "I", Cond.fieldLink RX1 46 "SemaphoreBay$Line" "blockCount" "I", Cond.fieldLink RX1 150 "SemaphoreBay$Block" "length" "I", Cond.methodLink RX1 103 yX2_blockAt, Cond.instanceMethod yX2_blockAt, Cond.selects RX2 yX2_blockAt yX2_blockAt, Cond.code yX2_blockAt cX2_blockAt 2 (some .int), Cond.methodLink RL 33 yX4_onRoute, Cond.instanceMethod yX4_onRoute, Cond.selects RX4 yX4_onRoute yX4_onRoute, Cond.code yX4_onRoute cX4_onRoute 3 (some .int), Cond.methodLink RX4 197 yX2_blockAt, Cond.methodLink RL 36 yX4_over, Cond.instanceMethod yX4_over, Cond.selects RX4 yX4_over yX4_over, Cond.code yX4_over cX4_over 4 (some .int), Cond.methodLink RX4 80 yX2_hasBlock, Cond.instanceMethod yX2_hasBlock, Cond.selects RX2 yX2_hasBlock yX2_hasBlock, Cond.code yX2_hasBlock cX2_hasBlock 3 (some .boolean), Cond.methodLink RX2 33 yX2_blockAt]
def gG7 : List Cond := [Cond.methodLink RX4 89 yX1_isInUse, Cond.instanceMethod yX1_isInUse, Cond.selects RX1 yX1_isInUse yX1_isInUse, Cond.code yX1_isInUse cX1_isInUse 3 (some .boolean), Cond.fieldLink RX1 59 "SemaphoreBay$Line" "trainCount" "I", Cond.fieldLink RX1 91 "SemaphoreBay$Train" "route" "I", Cond.methodLink RL 39 yX4_station, Cond.instanceMethod yX4_station, Cond.selects RX4 yX4_station yX4_station, Cond.code yX4_station cX4_station 3 (some .int), Cond.fieldLink RX4 27 "SemaphoreBay$Line" "platforms" "[I", Cond.methodLink RX4 182 yX1_countAt, Cond.instanceMethod yX1_countAt, Cond.selects RX1 yX1_countAt yX1_countAt, Cond.code yX1_countAt cX1_countAt 4 (some .int), Cond.fieldLink RX1 140 "SemaphoreBay$Train" "station" "I", Cond.methodLink RX4 185 yX1_countOnTheWayTo, Cond.instanceMethod yX1_countOnTheWayTo, Cond.selects RX1 yX1_countOnTheWayTo yX1_countOnTheWayTo, Cond.code yX1_countOnTheWayTo cX1_countOnTheWayTo 5 (some .int), Cond.fieldLink RX1 53 "SemaphoreBay$Line" "routeCount" "I", Cond.fieldLink RX1 219 "SemaphoreBay$Route" "to" "I", Cond.methodLink RL 42 yX4_train, Cond.instanceMethod yX4_train]
def gG8 : List Cond := [Cond.selects RX4 yX4_train yX4_train, Cond.code yX4_train cX4_train 7 (some .int), Cond.fieldLink RX4 111 "SemaphoreBay$Line" "trainCount" "I", Cond.fieldLink RX4 119 "SemaphoreBay$Line" "trains" "[LSemaphoreBay$Train;", Cond.fieldLink RX4 123 "SemaphoreBay$Train" "rank" "I", Cond.fieldLink RX4 128 "SemaphoreBay$Train" "pace" "I", Cond.fieldLink RX4 131 "SemaphoreBay$Train" "station" "I", Cond.fieldLink RX4 134 "SemaphoreBay$Line" "clock" "I", Cond.fieldLink RX4 137 "SemaphoreBay$Train" "cameAt" "I", Cond.methodLink RX4 114 yX1_hasRoom, Cond.instanceMethod yX1_hasRoom, Cond.selects RX1 yX1_hasRoom yX1_hasRoom, Cond.code yX1_hasRoom cX1_hasRoom 2 (some .boolean), Cond.methodLink RX1 229 yX1_countAt, Cond.methodLink RX1 232 yX1_countOnTheWayTo, Cond.methodLink RX4 140 yX3_addStop, Cond.instanceMethod yX3_addStop, Cond.selects RX3 yX3_addStop yX3_addStop, Cond.code yX3_addStop cX3_addStop 3 none, Cond.fieldLink RX3 37 "SemaphoreBay$Train" "stops" "I", Cond.methodLink RL 46 yX4_plan, Cond.instanceMethod yX4_plan, Cond.selects RX4 yX4_plan yX4_plan, Cond.code yX4_plan cX4_plan 5 (some .int)]
def gG9 : List Cond := [Cond.fieldLink RX4 146 "SemaphoreBay$Train" "stops" "I", Cond.methodLink RX4 143 yX4_needTrain, Cond.instanceMethod yX4_needTrain, Cond.selects RX4 yX4_needTrain yX4_needTrain, Cond.code yX4_needTrain cX4_needTrain 2 none, Cond.methodLink RX4 149 yX3_timeOf, Cond.instanceMethod yX3_timeOf, Cond.selects RX3 yX3_timeOf yX3_timeOf, Cond.code yX3_timeOf cX3_timeOf 2 (some .int), Cond.methodLink RX4 152 yX3_stationOf, Cond.instanceMethod yX3_stationOf, Cond.selects RX3 yX3_stationOf yX3_stationOf, Cond.code yX3_stationOf cX3_stationOf 2 (some .int), Cond.methodLink RL 50 yX4_stop, Cond.instanceMethod yX4_stop, Cond.selects RX4 yX4_stop yX4_stop, Cond.code yX4_stop cX4_stop 6 (some .int), Cond.methodLink RX4 157 yX3_isDone, Cond.instanceMethod yX3_isDone, Cond.selects RX3 yX3_isDone yX3_isDone, Cond.code yX3_isDone cX3_isDone 1 (some .boolean), Cond.methodLink RL 54 yX4_order, Cond.instanceMethod yX4_order, Cond.selects RX4 yX4_order yX4_order]
def gG10 : List Cond := [Cond.code yX4_order cX4_order 4 (some .int), Cond.fieldLink RX4 105 "SemaphoreBay$Line" "order" "I", Cond.fieldLink RX4 108 "SemaphoreBay$Line" "stay" "I", Cond.methodLink RL 57 yX4_digest, Cond.instanceMethod yX4_digest, Cond.selects RX4 yX4_digest yX4_digest, Cond.code yX4_digest cX4_digest 5 (some .long), Cond.constantLong RX4 267 (58091), Cond.methodLink RX4 269 yX4_clock, Cond.instanceMethod yX4_clock, Cond.selects RX4 yX4_clock yX4_clock, Cond.code yX4_clock cX4_clock 1 (some .int), Cond.methodLink RX4 271 yX4_mixed, Cond.static yX4_mixed, Cond.code yX4_mixed cX4_mixed 3 (some .long), Cond.constantLong RX4 297 (31), Cond.methodLink RX4 275 yX4_many, Cond.instanceMethod yX4_many, Cond.selects RX4 yX4_many yX4_many, Cond.code yX4_many cX4_many 2 (some .int), Cond.methodLink RX4 169 yX1_countDone, Cond.instanceMethod yX1_countDone, Cond.selects RX1 yX1_countDone yX1_countDone, Cond.code yX1_countDone cX1_countDone 3 (some .int)]
def gG11 : List Cond := [Cond.methodLink RX1 235 yX3_isDone, Cond.methodLink RX4 173 yX1_countAtStations, Cond.instanceMethod yX1_countAtStations, Cond.selects RX1 yX1_countAtStations yX1_countAtStations, Cond.code yX1_countAtStations cX1_countAtStations 3 (some .int), Cond.methodLink RX1 213 yX3_isAtStation, Cond.instanceMethod yX3_isAtStation, Cond.selects RX3 yX3_isAtStation yX3_isAtStation, Cond.code yX3_isAtStation cX3_isAtStation 1 (some .boolean), Cond.methodLink RX4 176 yX1_countOnBlocks, Cond.instanceMethod yX1_countOnBlocks, Cond.selects RX1 yX1_countOnBlocks yX1_countOnBlocks, Cond.code yX1_countOnBlocks cX1_countOnBlocks 3 (some .int), Cond.methodLink RX1 74 yX3_isOnBlock, Cond.instanceMethod yX3_isOnBlock, Cond.selects RX3 yX3_isOnBlock yX3_isOnBlock, Cond.code yX3_isOnBlock cX3_isOnBlock 1 (some .boolean), Cond.methodLink RX4 179 yX1_countStuck, Cond.instanceMethod yX1_countStuck, Cond.selects RX1 yX1_countStuck yX1_countStuck, Cond.code yX1_countStuck cX1_countStuck 3 (some .int), Cond.methodLink RX1 238 yX1_waitsForItself, Cond.instanceMethod yX1_waitsForItself, Cond.selects RX1 yX1_waitsForItself yX1_waitsForItself]
def gG12 : List Cond := [Cond.code yX1_waitsForItself cX1_waitsForItself 4 (some .boolean), Cond.fieldLink RX1 85 "SemaphoreBay$Train" "waitsFor" "I", Cond.methodLink RX4 278 yX4_station, Cond.methodLink RX4 281 yX4_ofBlock, Cond.instanceMethod yX4_ofBlock, Cond.selects RX4 yX4_ofBlock yX4_ofBlock, Cond.code yX4_ofBlock cX4_ofBlock 4 (some .int), Cond.fieldLink RX4 188 "SemaphoreBay$Block" "heldBy" "I", Cond.fieldLink RX4 191 "SemaphoreBay$Block" "lockedFor" "I", Cond.fieldLink RX4 98 "SemaphoreBay$Block" "shutTill" "I", Cond.methodLink RX4 101 yX1_tillOrNone, Cond.instanceMethod yX1_tillOrNone, Cond.selects RX1 yX1_tillOrNone yX1_tillOrNone, Cond.code yX1_tillOrNone cX1_tillOrNone 2 (some .int), Cond.fieldLink RX1 68 "SemaphoreBay$Line" "clock" "I", Cond.methodLink RX4 284 yX4_mixedWithTrain, Cond.instanceMethod yX4_mixedWithTrain, Cond.selects RX4 yX4_mixedWithTrain yX4_mixedWithTrain, Cond.code yX4_mixedWithTrain cX4_mixedWithTrain 7 (some .long), Cond.methodLink RX4 287 yX4_ofTrain, Cond.instanceMethod yX4_ofTrain, Cond.selects RX4 yX4_ofTrain yX4_ofTrain, Cond.code yX4_ofTrain cX4_ofTrain 4 (some .int), Cond.fieldLink RX4 218 "SemaphoreBay$Train" "lastStop" "I"]
def gG13 : List Cond := [Cond.fieldLink RX4 225 "SemaphoreBay$Train" "route" "I", Cond.fieldLink RX4 228 "SemaphoreBay$Train" "left" "I", Cond.fieldLink RX4 231 "SemaphoreBay$Train" "late" "I", Cond.fieldLink RX4 234 "SemaphoreBay$Train" "waited" "I", Cond.fieldLink RX4 163 "SemaphoreBay$Train" "heldBackTill" "I", Cond.methodLink RX4 221 yX1_blockUnder, Cond.instanceMethod yX1_blockUnder, Cond.selects RX1 yX1_blockUnder yX1_blockUnder, Cond.code yX1_blockUnder cX1_blockUnder 3 (some .int), Cond.fieldLink RX1 94 "SemaphoreBay$Train" "place" "I", Cond.methodLink RX4 237 yX1_isReady, Cond.instanceMethod yX1_isReady, Cond.selects RX1 yX1_isReady yX1_isReady, Cond.code yX1_isReady cX1_isReady 2 (some .boolean), Cond.fieldLink RX1 125 "SemaphoreBay$Train" "lastStop" "I", Cond.fieldLink RX1 128 "SemaphoreBay$Train" "cameAt" "I", Cond.fieldLink RX1 216 "SemaphoreBay$Train" "heldBackTill" "I", Cond.methodLink RX1 131 yX3_isAtLastStop, Cond.instanceMethod yX3_isAtLastStop, Cond.selects RX3 yX3_isAtLastStop yX3_isAtLastStop, Cond.code yX3_isAtLastStop cX3_isAtLastStop 1 (some .boolean), Cond.fieldLink RX3 46 "SemaphoreBay$Train" "lastStop" "I", Cond.methodLink RX1 176 yX3_timeOf, Cond.methodLink RX4 241 yX3_isAtEndOfBlock]
def gG14 : List Cond := [Cond.instanceMethod yX3_isAtEndOfBlock, Cond.selects RX3 yX3_isAtEndOfBlock yX3_isAtEndOfBlock, Cond.code yX3_isAtEndOfBlock cX3_isAtEndOfBlock 1 (some .boolean), Cond.fieldLink RX3 55 "SemaphoreBay$Train" "left" "I", Cond.methodLink RX4 290 yX4_waitsFor, Cond.instanceMethod yX4_waitsFor, Cond.selects RX4 yX4_waitsFor yX4_waitsFor, Cond.code yX4_waitsFor cX4_waitsFor 2 (some .int), Cond.fieldLink RX4 247 "SemaphoreBay$Train" "waitsFor" "I", Cond.methodLink RX4 292 yX4_isStuck, Cond.instanceMethod yX4_isStuck, Cond.selects RX4 yX4_isStuck yX4_isStuck, Cond.code yX4_isStuck cX4_isStuck 2 (some .boolean), Cond.methodLink RX4 250 yX1_waitsForItself, Cond.methodLink RX4 295 yX4_waitedFor, Cond.instanceMethod yX4_waitedFor, Cond.selects RX4 yX4_waitedFor yX4_waitedFor, Cond.code yX4_waitedFor cX4_waitedFor 3 (some .int), Cond.fieldLink RX4 244 "SemaphoreBay$Train" "waitedFor" "[I", Cond.methodLink RL 61 yX4_stuckIn, Cond.instanceMethod yX4_stuckIn, Cond.selects RX4 yX4_stuckIn yX4_stuckIn, Cond.code yX4_stuckIn cX4_stuckIn 3 (some .int), Cond.methodLink RX4 260 yX1_takeFrom]
def gG15 : List Cond := [Cond.instanceMethod yX1_takeFrom, Cond.selects RX1 yX1_takeFrom yX1_takeFrom, Cond.code yX1_takeFrom cX1_takeFrom 3 none, Cond.methodLink RX1 40 arraycopyName, Cond.native arraycopyName, Cond.static arraycopyName, Cond.initialized "java/lang/System", Cond.fieldLink RX1 65 "SemaphoreBay$Line" "order" "I", Cond.methodLink RX1 49 yX0_takeFrom, Cond.instanceMethod yX0_takeFrom, Cond.selects RX0 yX0_takeFrom yX0_takeFrom, Cond.code yX0_takeFrom cX0_takeFrom 2 none, Cond.fieldLink RX0 18 "SemaphoreBay$Block" "length" "I", Cond.fieldLink RX0 21 "SemaphoreBay$Block" "shutTill" "I", Cond.methodLink RX1 56 yX2_takeFrom, Cond.instanceMethod yX2_takeFrom, Cond.selects RX2 yX2_takeFrom yX2_takeFrom, Cond.code yX2_takeFrom cX2_takeFrom 3 none, Cond.methodLink RX2 29 yX2_lay, Cond.methodLink RX2 37 yX2_addBlock, Cond.methodLink RX1 62 yX3_takeFrom, Cond.instanceMethod yX3_takeFrom, Cond.selects RX3 yX3_takeFrom yX3_takeFrom, Cond.code yX3_takeFrom cX3_takeFrom 2 none]
def gG16 : List Cond := [Cond.fieldLink RX3 31 "SemaphoreBay$Train" "rank" "I", Cond.fieldLink RX3 34 "SemaphoreBay$Train" "pace" "I", Cond.methodLink RX3 40 arraycopyName, Cond.fieldLink RX3 49 "SemaphoreBay$Train" "cameAt" "I", Cond.fieldLink RX3 52 "SemaphoreBay$Train" "place" "I", Cond.fieldLink RX3 58 "SemaphoreBay$Train" "heldBackTill" "I", Cond.fieldLink RX3 61 "SemaphoreBay$Train" "late" "I", Cond.fieldLink RX3 64 "SemaphoreBay$Train" "waited" "I", Cond.methodLink RX4 166 yX1_passTicks, Cond.instanceMethod yX1_passTicks, Cond.selects RX1 yX1_passTicks yX1_passTicks, Cond.code yX1_passTicks cX1_passTicks 4 none, Cond.methodLink RX1 71 yX1_forgetWhoWaits, Cond.instanceMethod yX1_forgetWhoWaits, Cond.selects RX1 yX1_forgetWhoWaits yX1_forgetWhoWaits, Cond.code yX1_forgetWhoWaits cX1_forgetWhoWaits 2 none, Cond.methodLink RX1 78 yX1_roll, Cond.instanceMethod yX1_roll, Cond.selects RX1 yX1_roll yX1_roll, Cond.code yX1_roll cX1_roll 5 none, Cond.fieldLink RX1 88 "SemaphoreBay$Train" "left" "I", Cond.methodLink RX1 100 yX1_comeToStation, Cond.instanceMethod yX1_comeToStation, Cond.selects RX1 yX1_comeToStation yX1_comeToStation]
def gG17 : List Cond := [Cond.code yX1_comeToStation cX1_comeToStation 2 none, Cond.methodLink RX1 111 yX1_leaveBlock, Cond.instanceMethod yX1_leaveBlock, Cond.selects RX1 yX1_leaveBlock yX1_leaveBlock, Cond.code yX1_leaveBlock cX1_leaveBlock 3 none, Cond.fieldLink RX1 147 "SemaphoreBay$Block" "heldBy" "I", Cond.methodLink RX1 143 yX1_blockUnder, Cond.methodLink RX1 134 yX3_beLate, Cond.instanceMethod yX3_beLate, Cond.selects RX3 yX3_beLate yX3_beLate, Cond.code yX3_beLate cX3_beLate 2 none, Cond.methodLink RX3 71 Lib.Math.max.name, Cond.static Lib.Math.max.name, Cond.initialized "java/lang/Math", Cond.code Lib.Math.max.name Lib.Math.max.code 2 (some .int), Cond.methodLink RX3 67 yX3_timeOf, Cond.methodLink RX1 137 yX3_stationOf, Cond.methodLink RX1 107 yX1_isClearFor, Cond.instanceMethod yX1_isClearFor, Cond.selects RX1 yX1_isClearFor yX1_isClearFor, Cond.code yX1_isClearFor cX1_isClearFor 5 (some .boolean), Cond.fieldLink RX1 156 "SemaphoreBay$Block" "lockedFor" "I", Cond.fieldLink RX1 226 "SemaphoreBay$Block" "shutTill" "I", Cond.methodLink RX1 114 yX1_enter]
def gG18 : List Cond := [Cond.instanceMethod yX1_enter, Cond.selects RX1 yX1_enter yX1_enter, Cond.code yX1_enter cX1_enter 6 none, Cond.fieldLink RX1 153 "SemaphoreBay$Train" "pace" "I", Cond.methodLink RX1 118 yX1_trainInTheWay, Cond.instanceMethod yX1_trainInTheWay, Cond.selects RX1 yX1_trainInTheWay yX1_trainInTheWay, Cond.code yX1_trainInTheWay cX1_trainInTheWay 4 (some .int), Cond.methodLink RX1 122 yX3_waitOneTick, Cond.instanceMethod yX3_waitOneTick, Cond.selects RX3 yX3_waitOneTick yX3_waitOneTick, Cond.code yX3_waitOneTick cX3_waitOneTick 2 none, Cond.methodLink RX1 82 yX1_giveTurns, Cond.instanceMethod yX1_giveTurns, Cond.selects RX1 yX1_giveTurns yX1_giveTurns, Cond.code yX1_giveTurns cX1_giveTurns 4 none, Cond.methodLink RX1 159 yX1_firstReady, Cond.instanceMethod yX1_firstReady, Cond.selects RX1 yX1_firstReady yX1_firstReady, Cond.code yX1_firstReady cX1_firstReady 5 (some .int), Cond.methodLink RX1 165 yX1_isReady, Cond.methodLink RX1 169 yX1_goesAhead, Cond.instanceMethod yX1_goesAhead, Cond.selects RX1 yX1_goesAhead yX1_goesAhead]
def gG19 : List Cond := [Cond.code yX1_goesAhead cX1_goesAhead 3 (some .boolean), Cond.fieldLink RX1 173 "SemaphoreBay$Train" "rank" "I", Cond.methodLink RX1 162 yX1_takeTurn, Cond.instanceMethod yX1_takeTurn, Cond.selects RX1 yX1_takeTurn yX1_takeTurn, Cond.code yX1_takeTurn cX1_takeTurn 4 none, Cond.methodLink RX1 179 yX1_leadsOn, Cond.instanceMethod yX1_leadsOn, Cond.selects RX1 yX1_leadsOn yX1_leadsOn, Cond.code yX1_leadsOn cX1_leadsOn 3 (some .boolean), Cond.methodLink RX1 195 yX2_joins, Cond.instanceMethod yX2_joins, Cond.selects RX2 yX2_joins yX2_joins, Cond.code yX2_joins cX2_joins 3 (some .boolean), Cond.methodLink RX1 183 yX1_isOpenFor, Cond.instanceMethod yX1_isOpenFor, Cond.selects RX1 yX1_isOpenFor yX1_isOpenFor, Cond.code yX1_isOpenFor cX1_isOpenFor 3 (some .boolean), Cond.methodLink RX1 222 yX1_hasRoom, Cond.methodLink RX1 206 yX1_firstNotClear, Cond.instanceMethod yX1_firstNotClear, Cond.selects RX1 yX1_firstNotClear yX1_firstNotClear, Cond.code yX1_firstNotClear cX1_firstNotClear 4 (some .int), Cond.methodLink RX1 209 yX2_countToBeClear]
def gG20 : List Cond := [Cond.instanceMethod yX2_countToBeClear, Cond.selects RX2 yX2_countToBeClear yX2_countToBeClear, Cond.code yX2_countToBeClear cX2_countToBeClear 1 (some .int), Cond.methodLink RX1 187 yX1_setOut, Cond.instanceMethod yX1_setOut, Cond.selects RX1 yX1_setOut yX1_setOut, Cond.code yX1_setOut cX1_setOut 3 none, Cond.fieldLink RX1 198 "SemaphoreBay$Route" "isWhole" "Z", Cond.methodLink RX1 202 yX1_lockRest, Cond.instanceMethod yX1_lockRest, Cond.selects RX1 yX1_lockRest yX1_lockRest, Cond.code yX1_lockRest cX1_lockRest 5 none, Cond.methodLink RX1 191 yX1_blameOn, Cond.instanceMethod yX1_blameOn, Cond.selects RX1 yX1_blameOn yX1_blameOn, Cond.code yX1_blameOn cX1_blameOn 3 (some .int), Cond.methodLink RL 64 yX4_doneIn, Cond.instanceMethod yX4_doneIn, Cond.selects RX4 yX4_doneIn yX4_doneIn, Cond.code yX4_doneIn cX4_doneIn 4 (some .int), Cond.methodLink RL 67 yX4_tick, Cond.instanceMethod yX4_tick, Cond.selects RX4 yX4_tick yX4_tick, Cond.code yX4_tick cX4_tick 2 (some .int)]
def gG21 : List Cond := [Cond.methodLink RL 70 yX4_many, Cond.methodLink RL 73 yX4_ofTrain, Cond.methodLink RL 76 yX4_ofBlock, Cond.methodLink RL 79 yX4_isStuck, Cond.methodLink RL 83 yX4_waitsFor, Cond.methodLink RL 86 yX4_waitedFor]
/-- every word that a method here needs -/
def gG : List Cond := (gG1 ++ (gG2 ++ (gG3 ++ (gG4 ++ (gG5 ++ (gG6 ++ (gG7 ++ (gG8 ++ (gG9 ++ (gG10 ++ (gG11 ++ (gG12 ++ (gG13 ++ (gG14 ++ (gG15 ++ (gG16 ++ (gG17 ++ (gG18 ++ (gG19 ++ (gG20 ++ (gG21))))))))))))))))))))) ++ (wsX40 ++ (wsX10 ++ (wsX00 ++ (wsX20 ++ (wsX30)))))
theorem gI1 {w : Cond} (h : w ∈ gG1) : w ∈ gG := List.mem_append_left _ (List.mem_append_left _ h)
theorem gI2 {w : Cond} (h : w ∈ gG2) : w ∈ gG := List.mem_append_left _ (List.mem_append_right _ (List.mem_append_left _ h))
theorem gI3 {w : Cond} (h : w ∈ gG3) : w ∈ gG := List.mem_append_left _ (List.mem_append_right _ (List.mem_append_right _ (List.mem_append_left _ h)))
theorem gI4 {w : Cond} (h : w ∈ gG4) : w ∈ gG := List.mem_append_left _ (List.mem_append_right _ (List.mem_append_right _ (List.mem_append_right _ (List.mem_append_left _ h))))
theorem gI5 {w : Cond} (h : w ∈ gG5) : w ∈ gG := List.mem_append_left _ (List.mem_append_right _ (List.mem_append_right _ (List.mem_append_right _ (List.mem_append_right _ (List.mem_append_left _ h)))))
theorem gI6 {w : Cond} (h : w ∈ gG6) : w ∈ gG := List.mem_append_left _ (List.mem_append_right _ (List.mem_append_right _ (List.mem_append_right _ (List.mem_append_right _ (List.mem_append_right _ (List.mem_append_left _ h))))))
theorem gI7 {w : Cond} (h : w ∈ gG7) : w ∈ gG := List.mem_append_left _ (List.mem_append_right _ (List.mem_append_right _ (List.mem_append_right _ (List.mem_append_right _ (List.mem_append_right _ (List.mem_append_right _ (List.mem_append_left _ h)))))))
theorem gI8 {w : Cond} (h : w ∈ gG8) : w ∈ gG := List.mem_append_left _ (List.mem_append_right _ (List.mem_append_right _ (List.mem_append_right _ (List.mem_append_right _ (List.mem_append_right _ (List.mem_append_right _ (List.mem_append_right _ (List.mem_append_left _ h))))))))
theorem gI9 {w : Cond} (h : w ∈ gG9) : w ∈ gG := List.mem_append_left _ (List.mem_append_right _ (List.mem_append_right _ (List.mem_append_right _ (List.mem_append_right _ (List.mem_append_right _ (List.mem_append_right _ (List.mem_append_right _ (List.mem_append_right _ (List.mem_append_left _ h)))))))))
theorem gI10 {w : Cond} (h : w ∈ gG10) : w ∈ gG := List.mem_append_left _ (List.mem_append_right _ (List.mem_append_right _ (List.mem_append_right _ (List.mem_append_right _ (List.mem_append_right _ (List.mem_append_right _ (List.mem_append_right _ (List.mem_append_right _ (List.mem_append_right _ (List.mem_append_left _ h))))))))))
theorem gI11 {w : Cond} (h : w ∈ gG11) : w ∈ gG := List.mem_append_left _ (List.mem_append_right _ (List.mem_append_right _ (List.mem_append_right _ (List.mem_append_right _ (List.mem_append_right _ (List.mem_append_right _ (List.mem_append_right _ (List.mem_append_right _ (List.mem_append_right _ (List.mem_append_right _ (List.mem_append_left _ h)))))))))))
theorem gI12 {w : Cond} (h : w ∈ gG12) : w ∈ gG := List.mem_append_left _ (List.mem_append_right _ (List.mem_append_right _ (List.mem_append_right _ (List.mem_append_right _ (List.mem_append_right _ (List.mem_append_right _ (List.mem_append_right _ (List.mem_append_right _ (List.mem_append_right _ (List.mem_append_right _ (List.mem_append_right _ (List.mem_append_left _ h))))))))))))
theorem gI13 {w : Cond} (h : w ∈ gG13) : w ∈ gG := List.mem_append_left _ (List.mem_append_right _ (List.mem_append_right _ (List.mem_append_right _ (List.mem_append_right _ (List.mem_append_right _ (List.mem_append_right _ (List.mem_append_right _ (List.mem_append_right _ (List.mem_append_right _ (List.mem_append_right _ (List.mem_append_right _ (List.mem_append_right _ (List.mem_append_left _ h)))))))))))))
theorem gI14 {w : Cond} (h : w ∈ gG14) : w ∈ gG := List.mem_append_left _ (List.mem_append_right _ (List.mem_append_right _ (List.mem_append_right _ (List.mem_append_right _ (List.mem_append_right _ (List.mem_append_right _ (List.mem_append_right _ (List.mem_append_right _ (List.mem_append_right _ (List.mem_append_right _ (List.mem_append_right _ (List.mem_append_right _ (List.mem_append_right _ (List.mem_append_left _ h))))))))))))))
theorem gI15 {w : Cond} (h : w ∈ gG15) : w ∈ gG := List.mem_append_left _ (List.mem_append_right _ (List.mem_append_right _ (List.mem_append_right _ (List.mem_append_right _ (List.mem_append_right _ (List.mem_append_right _ (List.mem_append_right _ (List.mem_append_right _ (List.mem_append_right _ (List.mem_append_right _ (List.mem_append_right _ (List.mem_append_right _ (List.mem_append_right _ (List.mem_append_right _ (List.mem_append_left _ h)))))))))))))))
theorem gI16 {w : Cond} (h : w ∈ gG16) : w ∈ gG := List.mem_append_left _ (List.mem_append_right _ (List.mem_append_right _ (List.mem_append_right _ (List.mem_append_right _ (List.mem_append_right _ (List.mem_append_right _ (List.mem_append_right _ (List.mem_append_right _ (List.mem_append_right _ (List.mem_append_right _ (List.mem_append_right _ (List.mem_append_right _ (List.mem_append_right _ (List.mem_append_right _ (List.mem_append_right _ (List.mem_append_left _ h))))))))))))))))
theorem gI17 {w : Cond} (h : w ∈ gG17) : w ∈ gG := List.mem_append_left _ (List.mem_append_right _ (List.mem_append_right _ (List.mem_append_right _ (List.mem_append_right _ (List.mem_append_right _ (List.mem_append_right _ (List.mem_append_right _ (List.mem_append_right _ (List.mem_append_right _ (List.mem_append_right _ (List.mem_append_right _ (List.mem_append_right _ (List.mem_append_right _ (List.mem_append_right _ (List.mem_append_right _ (List.mem_append_right _ (List.mem_append_left _ h)))))))))))))))))
theorem gI18 {w : Cond} (h : w ∈ gG18) : w ∈ gG := List.mem_append_left _ (List.mem_append_right _ (List.mem_append_right _ (List.mem_append_right _ (List.mem_append_right _ (List.mem_append_right _ (List.mem_append_right _ (List.mem_append_right _ (List.mem_append_right _ (List.mem_append_right _ (List.mem_append_right _ (List.mem_append_right _ (List.mem_append_right _ (List.mem_append_right _ (List.mem_append_right _ (List.mem_append_right _ (List.mem_append_right _ (List.mem_append_right _ (List.mem_append_left _ h))))))))))))))))))
theorem gI19 {w : Cond} (h : w ∈ gG19) : w ∈ gG := List.mem_append_left _ (List.mem_append_right _ (List.mem_append_right _ (List.mem_append_right _ (List.mem_append_right _ (List.mem_append_right _ (List.mem_append_right _ (List.mem_append_right _ (List.mem_append_right _ (List.mem_append_right _ (List.mem_append_right _ (List.mem_append_right _ (List.mem_append_right _ (List.mem_append_right _ (List.mem_append_right _ (List.mem_append_right _ (List.mem_append_right _ (List.mem_append_right _ (List.mem_append_right _ (List.mem_append_left _ h)))))))))))))))))))
theorem gI20 {w : Cond} (h : w ∈ gG20) : w ∈ gG := List.mem_append_left _ (List.mem_append_right _ (List.mem_append_right _ (List.mem_append_right _ (List.mem_append_right _ (List.mem_append_right _ (List.mem_append_right _ (List.mem_append_right _ (List.mem_append_right _ (List.mem_append_right _ (List.mem_append_right _ (List.mem_append_right _ (List.mem_append_right _ (List.mem_append_right _ (List.mem_append_right _ (List.mem_append_right _ (List.mem_append_right _ (List.mem_append_right _ (List.mem_append_right _ (List.mem_append_right _ (List.mem_append_left _ h))))))))))))))))))))
theorem gI21 {w : Cond} (h : w ∈ gG21) : w ∈ gG := List.mem_append_left _ (List.mem_append_right _ (List.mem_append_right _ (List.mem_append_right _ (List.mem_append_right _ (List.mem_append_right _ (List.mem_append_right _ (List.mem_append_right _ (List.mem_append_right _ (List.mem_append_right _ (List.mem_append_right _ (List.mem_append_right _ (List.mem_append_right _ (List.mem_append_right _ (List.mem_append_right _ (List.mem_append_right _ (List.mem_append_right _ (List.mem_append_right _ (List.mem_append_right _ (List.mem_append_right _ (List.mem_append_right _ (h)))))))))))))))))))))
theorem gC4 : ∀ w ∈ wsX40, w ∈ gG := fun _ h => List.mem_append_right _ (List.mem_append_left _ h)
theorem gC1 : ∀ w ∈ wsX10, w ∈ gG := fun _ h => List.mem_append_right _ (List.mem_append_right _ (List.mem_append_left _ h))
theorem gC0 : ∀ w ∈ wsX00, w ∈ gG := fun _ h => List.mem_append_right _ (List.mem_append_right _ (List.mem_append_right _ (List.mem_append_left _ h)))
theorem gC2 : ∀ w ∈ wsX20, w ∈ gG := fun _ h => List.mem_append_right _ (List.mem_append_right _ (List.mem_append_right _ (List.mem_append_right _ (List.mem_append_left _ h))))
theorem gC3 : ∀ w ∈ wsX30, w ∈ gG := fun _ h => List.mem_append_right _ (List.mem_append_right _ (List.mem_append_right _ (List.mem_append_right _ (List.mem_append_right _ (h)))))
theorem gw_0 : Cond.classLink RL 9 RX4 ∈ gG := gI1 (List.mem_of_getElem? (i := 0) rfl)
theorem gw_1 : Cond.instantiable RX4 2 ∈ gG := gI1 (List.mem_of_getElem? (i := 1) rfl)
theorem gw_2 : Cond.initialized RX4 ∈ gG := gI1 (List.mem_of_getElem? (i := 2) rfl)
theorem gw_3 : Cond.arrayClass .int ∈ gG := gI1 (List.mem_of_getElem? (i := 3) rfl)
theorem gw_4 : Cond.methodLink RL 11 yX4_init ∈ gG := gI1 (List.mem_of_getElem? (i := 4) rfl)
theorem gw_5 : Cond.instanceMethod yX4_init ∈ gG := gI1 (List.mem_of_getElem? (i := 5) rfl)
theorem gw_6 : Cond.code yX4_init cX4_init 1 none ∈ gG := gI1 (List.mem_of_getElem? (i := 6) rfl)
theorem gw_7 : Cond.methodLink RX4 1 objectInit ∈ gG := gI1 (List.mem_of_getElem? (i := 7) rfl)
theorem gw_8 : Cond.instanceMethod objectInit ∈ gG := gI1 (List.mem_of_getElem? (i := 8) rfl)
theorem gw_9 : Cond.code objectInit ⟨#[0xb1]⟩ 1 none ∈ gG := gI1 (List.mem_of_getElem? (i := 9) rfl)
theorem gw_10 : Cond.classLink RX4 7 RX1 ∈ gG := gI1 (List.mem_of_getElem? (i := 10) rfl)
theorem gw_11 : Cond.instantiable RX1 10 ∈ gG := gI1 (List.mem_of_getElem? (i := 11) rfl)
theorem gw_12 : Cond.initialized RX1 ∈ gG := gI1 (List.mem_of_getElem? (i := 12) rfl)
theorem gw_13 : Cond.fieldLink RX4 10 "SemaphoreBay" "line" "LSemaphoreBay$Line;" ∈ gG := gI1 (List.mem_of_getElem? (i := 13) rfl)
theorem gw_14 : Cond.fieldLink RX4 16 "SemaphoreBay" "trial" "LSemaphoreBay$Line;" ∈ gG := gI1 (List.mem_of_getElem? (i := 14) rfl)
theorem gw_15 : Cond.methodLink RX4 9 yX1_init ∈ gG := gI1 (List.mem_of_getElem? (i := 15) rfl)
theorem gw_16 : Cond.instanceMethod yX1_init ∈ gG := gI1 (List.mem_of_getElem? (i := 16) rfl)
theorem gw_17 : Cond.code yX1_init cX1_init 2 none ∈ gG := gI1 (List.mem_of_getElem? (i := 17) rfl)
theorem gw_18 : Cond.methodLink RX1 3 objectInit ∈ gG := gI1 (List.mem_of_getElem? (i := 18) rfl)
theorem gw_19 : Cond.fieldLink RX1 9 "SemaphoreBay$Line" "platforms" "[I" ∈ gG := gI1 (List.mem_of_getElem? (i := 19) rfl)
theorem gw_20 : Cond.classLink RX1 15 RX0 ∈ gG := gI1 (List.mem_of_getElem? (i := 20) rfl)
theorem gw_21 : Cond.fieldLink RX1 17 "SemaphoreBay$Line" "blocks" "[LSemaphoreBay$Block;" ∈ gG := gI1 (List.mem_of_getElem? (i := 21) rfl)
theorem gw_22 : Cond.classLink RX1 21 RX2 ∈ gG := gI1 (List.mem_of_getElem? (i := 22) rfl)
theorem gw_23 : Cond.fieldLink RX1 23 "SemaphoreBay$Line" "routes" "[LSemaphoreBay$Route;" ∈ gG := gI1 (List.mem_of_getElem? (i := 23) rfl)
theorem gw_24 : Cond.classLink RX1 27 RX3 ∈ gG := gI2 (List.mem_of_getElem? (i := 0) rfl)
theorem gw_25 : Cond.fieldLink RX1 29 "SemaphoreBay$Line" "trains" "[LSemaphoreBay$Train;" ∈ gG := gI2 (List.mem_of_getElem? (i := 1) rfl)
theorem gw_26 : Cond.fieldLink RX1 33 "SemaphoreBay$Line" "stay" "I" ∈ gG := gI2 (List.mem_of_getElem? (i := 2) rfl)
theorem gw_27 : Cond.instantiable RX0 4 ∈ gG := gI2 (List.mem_of_getElem? (i := 3) rfl)
theorem gw_28 : Cond.initialized RX0 ∈ gG := gI2 (List.mem_of_getElem? (i := 4) rfl)
theorem gw_29 : Cond.instantiable RX2 5 ∈ gG := gI2 (List.mem_of_getElem? (i := 5) rfl)
theorem gw_30 : Cond.initialized RX2 ∈ gG := gI2 (List.mem_of_getElem? (i := 6) rfl)
theorem gw_31 : Cond.instantiable RX3 16 ∈ gG := gI2 (List.mem_of_getElem? (i := 7) rfl)
theorem gw_32 : Cond.initialized RX3 ∈ gG := gI2 (List.mem_of_getElem? (i := 8) rfl)
theorem gw_33 : Cond.instanceMethod yX0_init ∈ gG := gI2 (List.mem_of_getElem? (i := 9) rfl)
theorem gw_34 : Cond.code yX0_init cX0_init 1 none ∈ gG := gI2 (List.mem_of_getElem? (i := 10) rfl)
theorem gw_35 : Cond.methodLink RX0 3 objectInit ∈ gG := gI2 (List.mem_of_getElem? (i := 11) rfl)
theorem gw_36 : Cond.fieldLink RX0 9 "SemaphoreBay$Block" "heldBy" "I" ∈ gG := gI2 (List.mem_of_getElem? (i := 12) rfl)
theorem gw_37 : Cond.fieldLink RX0 15 "SemaphoreBay$Block" "lockedFor" "I" ∈ gG := gI2 (List.mem_of_getElem? (i := 13) rfl)
theorem gw_38 : Cond.instanceMethod yX2_init ∈ gG := gI2 (List.mem_of_getElem? (i := 14) rfl)
theorem gw_39 : Cond.code yX2_init cX2_init 1 none ∈ gG := gI2 (List.mem_of_getElem? (i := 15) rfl)
theorem gw_40 : Cond.methodLink RX2 3 objectInit ∈ gG := gI2 (List.mem_of_getElem? (i := 16) rfl)
theorem gw_41 : Cond.fieldLink RX2 9 "SemaphoreBay$Route" "blocks" "[I" ∈ gG := gI2 (List.mem_of_getElem? (i := 17) rfl)
theorem gw_42 : Cond.instanceMethod yX3_init ∈ gG := gI2 (List.mem_of_getElem? (i := 18) rfl)
theorem gw_43 : Cond.code yX3_init cX3_init 1 none ∈ gG := gI2 (List.mem_of_getElem? (i := 19) rfl)
theorem gw_44 : Cond.methodLink RX3 3 objectInit ∈ gG := gI2 (List.mem_of_getElem? (i := 20) rfl)
theorem gw_45 : Cond.fieldLink RX3 9 "SemaphoreBay$Train" "stations" "[I" ∈ gG := gI2 (List.mem_of_getElem? (i := 21) rfl)
theorem gw_46 : Cond.fieldLink RX3 15 "SemaphoreBay$Train" "times" "[I" ∈ gG := gI2 (List.mem_of_getElem? (i := 22) rfl)
theorem gw_47 : Cond.fieldLink RX3 18 "SemaphoreBay$Train" "station" "I" ∈ gG := gI2 (List.mem_of_getElem? (i := 23) rfl)
theorem gw_48 : Cond.fieldLink RX3 22 "SemaphoreBay$Train" "route" "I" ∈ gG := gI3 (List.mem_of_getElem? (i := 0) rfl)
theorem gw_49 : Cond.fieldLink RX3 25 "SemaphoreBay$Train" "waitsFor" "I" ∈ gG := gI3 (List.mem_of_getElem? (i := 1) rfl)
theorem gw_50 : Cond.fieldLink RX3 28 "SemaphoreBay$Train" "waitedFor" "[I" ∈ gG := gI3 (List.mem_of_getElem? (i := 2) rfl)
theorem gw_51 : Cond.methodLink RL 12 yL_cell ∈ gG := gI3 (List.mem_of_getElem? (i := 3) rfl)
theorem gw_52 : Cond.static yL_cell ∈ gG := gI3 (List.mem_of_getElem? (i := 4) rfl)
theorem gw_53 : Cond.initialized RL ∈ gG := gI3 (List.mem_of_getElem? (i := 5) rfl)
theorem gw_54 : Cond.code yL_cell cL_cell 2 (some .int) ∈ gG := gI3 (List.mem_of_getElem? (i := 6) rfl)
theorem gw_55 : Cond.constant RL 8 (790386105) ∈ gG := gI3 (List.mem_of_getElem? (i := 7) rfl)
theorem gw_56 : Cond.methodLink RL 18 yL_below ∈ gG := gI3 (List.mem_of_getElem? (i := 8) rfl)
theorem gw_57 : Cond.static yL_below ∈ gG := gI3 (List.mem_of_getElem? (i := 9) rfl)
theorem gw_58 : Cond.code yL_below cL_below 2 (some .int) ∈ gG := gI3 (List.mem_of_getElem? (i := 10) rfl)
theorem gw_59 : Cond.constant RL 7 (2147483647) ∈ gG := gI3 (List.mem_of_getElem? (i := 11) rfl)
theorem gw_60 : Cond.methodLink RL 22 yX4_block ∈ gG := gI3 (List.mem_of_getElem? (i := 12) rfl)
theorem gw_61 : Cond.instanceMethod yX4_block ∈ gG := gI3 (List.mem_of_getElem? (i := 13) rfl)
theorem gw_62 : Cond.selects RX4 yX4_block yX4_block ∈ gG := gI3 (List.mem_of_getElem? (i := 14) rfl)
theorem gw_63 : Cond.code yX4_block cX4_block 3 (some .int) ∈ gG := gI3 (List.mem_of_getElem? (i := 15) rfl)
theorem gw_64 : Cond.classLink RX4 35 "java/lang/IllegalStateException" ∈ gG := gI3 (List.mem_of_getElem? (i := 16) rfl)
theorem gw_65 : Cond.initialized "java/lang/IllegalStateException" ∈ gG := gI3 (List.mem_of_getElem? (i := 17) rfl)
theorem gw_66 : Cond.fieldLink RX4 31 "SemaphoreBay$Line" "blockCount" "I" ∈ gG := gI3 (List.mem_of_getElem? (i := 18) rfl)
theorem gw_67 : Cond.fieldLink RX4 42 "SemaphoreBay$Line" "blocks" "[LSemaphoreBay$Block;" ∈ gG := gI3 (List.mem_of_getElem? (i := 19) rfl)
theorem gw_68 : Cond.fieldLink RX4 46 "SemaphoreBay$Block" "length" "I" ∈ gG := gI3 (List.mem_of_getElem? (i := 20) rfl)
theorem gw_69 : Cond.methodLink RX4 23 yX4_needWithin ∈ gG := gI3 (List.mem_of_getElem? (i := 21) rfl)
theorem gw_70 : Cond.static yX4_needWithin ∈ gG := gI3 (List.mem_of_getElem? (i := 22) rfl)
theorem gw_71 : Cond.code yX4_needWithin cX4_needWithin 3 none ∈ gG := gI3 (List.mem_of_getElem? (i := 23) rfl)
theorem gw_72 : Cond.classLink RX4 54 "java/lang/IllegalArgumentException" ∈ gG := gI4 (List.mem_of_getElem? (i := 0) rfl)
theorem gw_73 : Cond.initialized "java/lang/IllegalArgumentException" ∈ gG := gI4 (List.mem_of_getElem? (i := 1) rfl)
theorem gw_74 : Cond.methodLink RL 26 yX4_route ∈ gG := gI4 (List.mem_of_getElem? (i := 2) rfl)
theorem gw_75 : Cond.instanceMethod yX4_route ∈ gG := gI4 (List.mem_of_getElem? (i := 3) rfl)
theorem gw_76 : Cond.selects RX4 yX4_route yX4_route ∈ gG := gI4 (List.mem_of_getElem? (i := 4) rfl)
theorem gw_77 : Cond.code yX4_route cX4_route 6 (some .int) ∈ gG := gI4 (List.mem_of_getElem? (i := 5) rfl)
theorem gw_78 : Cond.fieldLink RX4 59 "SemaphoreBay$Line" "routeCount" "I" ∈ gG := gI4 (List.mem_of_getElem? (i := 6) rfl)
theorem gw_79 : Cond.fieldLink RX4 64 "SemaphoreBay$Line" "routes" "[LSemaphoreBay$Route;" ∈ gG := gI4 (List.mem_of_getElem? (i := 7) rfl)
theorem gw_80 : Cond.methodLink RX4 19 yX4_needStation ∈ gG := gI4 (List.mem_of_getElem? (i := 8) rfl)
theorem gw_81 : Cond.static yX4_needStation ∈ gG := gI4 (List.mem_of_getElem? (i := 9) rfl)
theorem gw_82 : Cond.code yX4_needStation cX4_needStation 1 none ∈ gG := gI4 (List.mem_of_getElem? (i := 10) rfl)
theorem gw_83 : Cond.methodLink RX4 194 yX4_needNumber ∈ gG := gI4 (List.mem_of_getElem? (i := 11) rfl)
theorem gw_84 : Cond.static yX4_needNumber ∈ gG := gI4 (List.mem_of_getElem? (i := 12) rfl)
theorem gw_85 : Cond.code yX4_needNumber cX4_needNumber 2 none ∈ gG := gI4 (List.mem_of_getElem? (i := 13) rfl)
theorem gw_86 : Cond.classLink RX4 299 "java/lang/IndexOutOfBoundsException" ∈ gG := gI4 (List.mem_of_getElem? (i := 14) rfl)
theorem gw_87 : Cond.initialized "java/lang/IndexOutOfBoundsException" ∈ gG := gI4 (List.mem_of_getElem? (i := 15) rfl)
theorem gw_88 : Cond.methodLink RX4 51 yX4_needBlock ∈ gG := gI4 (List.mem_of_getElem? (i := 16) rfl)
theorem gw_89 : Cond.instanceMethod yX4_needBlock ∈ gG := gI4 (List.mem_of_getElem? (i := 17) rfl)
theorem gw_90 : Cond.selects RX4 yX4_needBlock yX4_needBlock ∈ gG := gI4 (List.mem_of_getElem? (i := 18) rfl)
theorem gw_91 : Cond.code yX4_needBlock cX4_needBlock 2 none ∈ gG := gI4 (List.mem_of_getElem? (i := 19) rfl)
theorem gw_92 : Cond.methodLink RX4 68 yX2_lay ∈ gG := gI4 (List.mem_of_getElem? (i := 20) rfl)
theorem gw_93 : Cond.instanceMethod yX2_lay ∈ gG := gI4 (List.mem_of_getElem? (i := 21) rfl)
theorem gw_94 : Cond.selects RX2 yX2_lay yX2_lay ∈ gG := gI4 (List.mem_of_getElem? (i := 22) rfl)
theorem gw_95 : Cond.code yX2_lay cX2_lay 4 none ∈ gG := gI4 (List.mem_of_getElem? (i := 23) rfl)
theorem gw_96 : Cond.fieldLink RX2 15 "SemaphoreBay$Route" "from" "I" ∈ gG := gI5 (List.mem_of_getElem? (i := 0) rfl)
theorem gw_97 : Cond.fieldLink RX2 19 "SemaphoreBay$Route" "to" "I" ∈ gG := gI5 (List.mem_of_getElem? (i := 1) rfl)
theorem gw_98 : Cond.fieldLink RX2 22 "SemaphoreBay$Route" "isWhole" "Z" ∈ gG := gI5 (List.mem_of_getElem? (i := 2) rfl)
theorem gw_99 : Cond.fieldLink RX2 26 "SemaphoreBay$Route" "count" "I" ∈ gG := gI5 (List.mem_of_getElem? (i := 3) rfl)
theorem gw_100 : Cond.methodLink RX4 74 yX2_addBlock ∈ gG := gI5 (List.mem_of_getElem? (i := 4) rfl)
theorem gw_101 : Cond.instanceMethod yX2_addBlock ∈ gG := gI5 (List.mem_of_getElem? (i := 5) rfl)
theorem gw_102 : Cond.selects RX2 yX2_addBlock yX2_addBlock ∈ gG := gI5 (List.mem_of_getElem? (i := 6) rfl)
theorem gw_103 : Cond.code yX2_addBlock cX2_addBlock 2 none ∈ gG := gI5 (List.mem_of_getElem? (i := 7) rfl)
theorem gw_104 : Cond.methodLink RL 30 yX4_ofRoute ∈ gG := gI5 (List.mem_of_getElem? (i := 8) rfl)
theorem gw_105 : Cond.instanceMethod yX4_ofRoute ∈ gG := gI5 (List.mem_of_getElem? (i := 9) rfl)
theorem gw_106 : Cond.selects RX4 yX4_ofRoute yX4_ofRoute ∈ gG := gI5 (List.mem_of_getElem? (i := 10) rfl)
theorem gw_107 : Cond.code yX4_ofRoute cX4_ofRoute 4 (some .int) ∈ gG := gI5 (List.mem_of_getElem? (i := 11) rfl)
theorem gw_108 : Cond.fieldLink RX4 200 "SemaphoreBay$Route" "from" "I" ∈ gG := gI5 (List.mem_of_getElem? (i := 12) rfl)
theorem gw_109 : Cond.fieldLink RX4 203 "SemaphoreBay$Route" "to" "I" ∈ gG := gI5 (List.mem_of_getElem? (i := 13) rfl)
theorem gw_110 : Cond.fieldLink RX4 86 "SemaphoreBay$Route" "count" "I" ∈ gG := gI5 (List.mem_of_getElem? (i := 14) rfl)
theorem gw_111 : Cond.fieldLink RX4 206 "SemaphoreBay$Route" "isWhole" "Z" ∈ gG := gI5 (List.mem_of_getElem? (i := 15) rfl)
theorem gw_112 : Cond.methodLink RX4 77 yX4_needRoute ∈ gG := gI5 (List.mem_of_getElem? (i := 16) rfl)
theorem gw_113 : Cond.instanceMethod yX4_needRoute ∈ gG := gI5 (List.mem_of_getElem? (i := 17) rfl)
theorem gw_114 : Cond.selects RX4 yX4_needRoute yX4_needRoute ∈ gG := gI5 (List.mem_of_getElem? (i := 18) rfl)
theorem gw_115 : Cond.code yX4_needRoute cX4_needRoute 2 none ∈ gG := gI5 (List.mem_of_getElem? (i := 19) rfl)
theorem gw_116 : Cond.methodLink RX4 210 yX4_oneIf ∈ gG := gI5 (List.mem_of_getElem? (i := 20) rfl)
theorem gw_117 : Cond.static yX4_oneIf ∈ gG := gI5 (List.mem_of_getElem? (i := 21) rfl)
theorem gw_118 : Cond.code yX4_oneIf cX4_oneIf 1 (some .int) ∈ gG := gI5 (List.mem_of_getElem? (i := 22) rfl)
theorem gw_119 : Cond.methodLink RX4 214 yX1_lengthOf ∈ gG := gI5 (List.mem_of_getElem? (i := 23) rfl)
theorem gw_120 : Cond.instanceMethod yX1_lengthOf ∈ gG := gI6 (List.mem_of_getElem? (i := 0) rfl)
theorem gw_121 : Cond.selects RX1 yX1_lengthOf yX1_lengthOf ∈ gG := gI6 (List.mem_of_getElem? (i := 1) rfl)
theorem gw_122 : Cond.code yX1_lengthOf cX1_lengthOf 5 (some .int) ∈ gG := gI6 (List.mem_of_getElem? (i := 2) rfl)
theorem gw_123 : Cond.fieldLink RX1 97 "SemaphoreBay$Route" "count" "I" ∈ gG := gI6 (List.mem_of_getElem? (i := 3) rfl)
theorem gw_124 : Cond.fieldLink RX1 46 "SemaphoreBay$Line" "blockCount" "I" ∈ gG := gI6 (List.mem_of_getElem? (i := 4) rfl)
theorem gw_125 : Cond.fieldLink RX1 150 "SemaphoreBay$Block" "length" "I" ∈ gG := gI6 (List.mem_of_getElem? (i := 5) rfl)
theorem gw_126 : Cond.methodLink RX1 103 yX2_blockAt ∈ gG := gI6 (List.mem_of_getElem? (i := 6) rfl)
theorem gw_127 : Cond.instanceMethod yX2_blockAt ∈ gG := gI6 (List.mem_of_getElem? (i := 7) rfl)
theorem gw_128 : Cond.selects RX2 yX2_blockAt yX2_blockAt ∈ gG := gI6 (List.mem_of_getElem? (i := 8) rfl)
theorem gw_129 : Cond.code yX2_blockAt cX2_blockAt 2 (some .int) ∈ gG := gI6 (List.mem_of_getElem? (i := 9) rfl)
theorem gw_130 : Cond.methodLink RL 33 yX4_onRoute ∈ gG := gI6 (List.mem_of_getElem? (i := 10) rfl)
theorem gw_131 : Cond.instanceMethod yX4_onRoute ∈ gG := gI6 (List.mem_of_getElem? (i := 11) rfl)
theorem gw_132 : Cond.selects RX4 yX4_onRoute yX4_onRoute ∈ gG := gI6 (List.mem_of_getElem? (i := 12) rfl)
theorem gw_133 : Cond.code yX4_onRoute cX4_onRoute 3 (some .int) ∈ gG := gI6 (List.mem_of_getElem? (i := 13) rfl)
theorem gw_134 : Cond.methodLink RX4 197 yX2_blockAt ∈ gG := gI6 (List.mem_of_getElem? (i := 14) rfl)
theorem gw_135 : Cond.methodLink RL 36 yX4_over ∈ gG := gI6 (List.mem_of_getElem? (i := 15) rfl)
theorem gw_136 : Cond.instanceMethod yX4_over ∈ gG := gI6 (List.mem_of_getElem? (i := 16) rfl)
theorem gw_137 : Cond.selects RX4 yX4_over yX4_over ∈ gG := gI6 (List.mem_of_getElem? (i := 17) rfl)
theorem gw_138 : Cond.code yX4_over cX4_over 4 (some .int) ∈ gG := gI6 (List.mem_of_getElem? (i := 18) rfl)
theorem gw_139 : Cond.methodLink RX4 80 yX2_hasBlock ∈ gG := gI6 (List.mem_of_getElem? (i := 19) rfl)
theorem gw_140 : Cond.instanceMethod yX2_hasBlock ∈ gG := gI6 (List.mem_of_getElem? (i := 20) rfl)
theorem gw_141 : Cond.selects RX2 yX2_hasBlock yX2_hasBlock ∈ gG := gI6 (List.mem_of_getElem? (i := 21) rfl)
theorem gw_142 : Cond.code yX2_hasBlock cX2_hasBlock 3 (some .boolean) ∈ gG := gI6 (List.mem_of_getElem? (i := 22) rfl)
theorem gw_143 : Cond.methodLink RX2 33 yX2_blockAt ∈ gG := gI6 (List.mem_of_getElem? (i := 23) rfl)
theorem gw_144 : Cond.methodLink RX4 89 yX1_isInUse ∈ gG := gI7 (List.mem_of_getElem? (i := 0) rfl)
theorem gw_145 : Cond.instanceMethod yX1_isInUse ∈ gG := gI7 (List.mem_of_getElem? (i := 1) rfl)
theorem gw_146 : Cond.selects RX1 yX1_isInUse yX1_isInUse ∈ gG := gI7 (List.mem_of_getElem? (i := 2) rfl)
theorem gw_147 : Cond.code yX1_isInUse cX1_isInUse 3 (some .boolean) ∈ gG := gI7 (List.mem_of_getElem? (i := 3) rfl)
theorem gw_148 : Cond.fieldLink RX1 59 "SemaphoreBay$Line" "trainCount" "I" ∈ gG := gI7 (List.mem_of_getElem? (i := 4) rfl)
theorem gw_149 : Cond.fieldLink RX1 91 "SemaphoreBay$Train" "route" "I" ∈ gG := gI7 (List.mem_of_getElem? (i := 5) rfl)
theorem gw_150 : Cond.methodLink RL 39 yX4_station ∈ gG := gI7 (List.mem_of_getElem? (i := 6) rfl)
theorem gw_151 : Cond.instanceMethod yX4_station ∈ gG := gI7 (List.mem_of_getElem? (i := 7) rfl)
theorem gw_152 : Cond.selects RX4 yX4_station yX4_station ∈ gG := gI7 (List.mem_of_getElem? (i := 8) rfl)
theorem gw_153 : Cond.code yX4_station cX4_station 3 (some .int) ∈ gG := gI7 (List.mem_of_getElem? (i := 9) rfl)
theorem gw_154 : Cond.fieldLink RX4 27 "SemaphoreBay$Line" "platforms" "[I" ∈ gG := gI7 (List.mem_of_getElem? (i := 10) rfl)
theorem gw_155 : Cond.methodLink RX4 182 yX1_countAt ∈ gG := gI7 (List.mem_of_getElem? (i := 11) rfl)
theorem gw_156 : Cond.instanceMethod yX1_countAt ∈ gG := gI7 (List.mem_of_getElem? (i := 12) rfl)
theorem gw_157 : Cond.selects RX1 yX1_countAt yX1_countAt ∈ gG := gI7 (List.mem_of_getElem? (i := 13) rfl)
theorem gw_158 : Cond.code yX1_countAt cX1_countAt 4 (some .int) ∈ gG := gI7 (List.mem_of_getElem? (i := 14) rfl)
theorem gw_159 : Cond.fieldLink RX1 140 "SemaphoreBay$Train" "station" "I" ∈ gG := gI7 (List.mem_of_getElem? (i := 15) rfl)
theorem gw_160 : Cond.methodLink RX4 185 yX1_countOnTheWayTo ∈ gG := gI7 (List.mem_of_getElem? (i := 16) rfl)
theorem gw_161 : Cond.instanceMethod yX1_countOnTheWayTo ∈ gG := gI7 (List.mem_of_getElem? (i := 17) rfl)
theorem gw_162 : Cond.selects RX1 yX1_countOnTheWayTo yX1_countOnTheWayTo ∈ gG := gI7 (List.mem_of_getElem? (i := 18) rfl)
theorem gw_163 : Cond.code yX1_countOnTheWayTo cX1_countOnTheWayTo 5 (some .int) ∈ gG := gI7 (List.mem_of_getElem? (i := 19) rfl)
theorem gw_164 : Cond.fieldLink RX1 53 "SemaphoreBay$Line" "routeCount" "I" ∈ gG := gI7 (List.mem_of_getElem? (i := 20) rfl)
theorem gw_165 : Cond.fieldLink RX1 219 "SemaphoreBay$Route" "to" "I" ∈ gG := gI7 (List.mem_of_getElem? (i := 21) rfl)
theorem gw_166 : Cond.methodLink RL 42 yX4_train ∈ gG := gI7 (List.mem_of_getElem? (i := 22) rfl)
theorem gw_167 : Cond.instanceMethod yX4_train ∈ gG := gI7 (List.mem_of_getElem? (i := 23) rfl)
theorem gw_168 : Cond.selects RX4 yX4_train yX4_train ∈ gG := gI8 (List.mem_of_getElem? (i := 0) rfl)
theorem gw_169 : Cond.code yX4_train cX4_train 7 (some .int) ∈ gG := gI8 (List.mem_of_getElem? (i := 1) rfl)
theorem gw_170 : Cond.fieldLink RX4 111 "SemaphoreBay$Line" "trainCount" "I" ∈ gG := gI8 (List.mem_of_getElem? (i := 2) rfl)
theorem gw_171 : Cond.fieldLink RX4 119 "SemaphoreBay$Line" "trains" "[LSemaphoreBay$Train;" ∈ gG := gI8 (List.mem_of_getElem? (i := 3) rfl)
theorem gw_172 : Cond.fieldLink RX4 123 "SemaphoreBay$Train" "rank" "I" ∈ gG := gI8 (List.mem_of_getElem? (i := 4) rfl)
theorem gw_173 : Cond.fieldLink RX4 128 "SemaphoreBay$Train" "pace" "I" ∈ gG := gI8 (List.mem_of_getElem? (i := 5) rfl)
theorem gw_174 : Cond.fieldLink RX4 131 "SemaphoreBay$Train" "station" "I" ∈ gG := gI8 (List.mem_of_getElem? (i := 6) rfl)
theorem gw_175 : Cond.fieldLink RX4 134 "SemaphoreBay$Line" "clock" "I" ∈ gG := gI8 (List.mem_of_getElem? (i := 7) rfl)
theorem gw_176 : Cond.fieldLink RX4 137 "SemaphoreBay$Train" "cameAt" "I" ∈ gG := gI8 (List.mem_of_getElem? (i := 8) rfl)
theorem gw_177 : Cond.methodLink RX4 114 yX1_hasRoom ∈ gG := gI8 (List.mem_of_getElem? (i := 9) rfl)
theorem gw_178 : Cond.instanceMethod yX1_hasRoom ∈ gG := gI8 (List.mem_of_getElem? (i := 10) rfl)
theorem gw_179 : Cond.selects RX1 yX1_hasRoom yX1_hasRoom ∈ gG := gI8 (List.mem_of_getElem? (i := 11) rfl)
theorem gw_180 : Cond.code yX1_hasRoom cX1_hasRoom 2 (some .boolean) ∈ gG := gI8 (List.mem_of_getElem? (i := 12) rfl)
theorem gw_181 : Cond.methodLink RX1 229 yX1_countAt ∈ gG := gI8 (List.mem_of_getElem? (i := 13) rfl)
theorem gw_182 : Cond.methodLink RX1 232 yX1_countOnTheWayTo ∈ gG := gI8 (List.mem_of_getElem? (i := 14) rfl)
theorem gw_183 : Cond.methodLink RX4 140 yX3_addStop ∈ gG := gI8 (List.mem_of_getElem? (i := 15) rfl)
theorem gw_184 : Cond.instanceMethod yX3_addStop ∈ gG := gI8 (List.mem_of_getElem? (i := 16) rfl)
theorem gw_185 : Cond.selects RX3 yX3_addStop yX3_addStop ∈ gG := gI8 (List.mem_of_getElem? (i := 17) rfl)
theorem gw_186 : Cond.code yX3_addStop cX3_addStop 3 none ∈ gG := gI8 (List.mem_of_getElem? (i := 18) rfl)
theorem gw_187 : Cond.fieldLink RX3 37 "SemaphoreBay$Train" "stops" "I" ∈ gG := gI8 (List.mem_of_getElem? (i := 19) rfl)
theorem gw_188 : Cond.methodLink RL 46 yX4_plan ∈ gG := gI8 (List.mem_of_getElem? (i := 20) rfl)
theorem gw_189 : Cond.instanceMethod yX4_plan ∈ gG := gI8 (List.mem_of_getElem? (i := 21) rfl)
theorem gw_190 : Cond.selects RX4 yX4_plan yX4_plan ∈ gG := gI8 (List.mem_of_getElem? (i := 22) rfl)
theorem gw_191 : Cond.code yX4_plan cX4_plan 5 (some .int) ∈ gG := gI8 (List.mem_of_getElem? (i := 23) rfl)
theorem gw_192 : Cond.fieldLink RX4 146 "SemaphoreBay$Train" "stops" "I" ∈ gG := gI9 (List.mem_of_getElem? (i := 0) rfl)
theorem gw_193 : Cond.methodLink RX4 143 yX4_needTrain ∈ gG := gI9 (List.mem_of_getElem? (i := 1) rfl)
theorem gw_194 : Cond.instanceMethod yX4_needTrain ∈ gG := gI9 (List.mem_of_getElem? (i := 2) rfl)
theorem gw_195 : Cond.selects RX4 yX4_needTrain yX4_needTrain ∈ gG := gI9 (List.mem_of_getElem? (i := 3) rfl)
theorem gw_196 : Cond.code yX4_needTrain cX4_needTrain 2 none ∈ gG := gI9 (List.mem_of_getElem? (i := 4) rfl)
theorem gw_197 : Cond.methodLink RX4 149 yX3_timeOf ∈ gG := gI9 (List.mem_of_getElem? (i := 5) rfl)
theorem gw_198 : Cond.instanceMethod yX3_timeOf ∈ gG := gI9 (List.mem_of_getElem? (i := 6) rfl)
theorem gw_199 : Cond.selects RX3 yX3_timeOf yX3_timeOf ∈ gG := gI9 (List.mem_of_getElem? (i := 7) rfl)
theorem gw_200 : Cond.code yX3_timeOf cX3_timeOf 2 (some .int) ∈ gG := gI9 (List.mem_of_getElem? (i := 8) rfl)
theorem gw_201 : Cond.methodLink RX4 152 yX3_stationOf ∈ gG := gI9 (List.mem_of_getElem? (i := 9) rfl)
theorem gw_202 : Cond.instanceMethod yX3_stationOf ∈ gG := gI9 (List.mem_of_getElem? (i := 10) rfl)
theorem gw_203 : Cond.selects RX3 yX3_stationOf yX3_stationOf ∈ gG := gI9 (List.mem_of_getElem? (i := 11) rfl)
theorem gw_204 : Cond.code yX3_stationOf cX3_stationOf 2 (some .int) ∈ gG := gI9 (List.mem_of_getElem? (i := 12) rfl)
theorem gw_205 : Cond.methodLink RL 50 yX4_stop ∈ gG := gI9 (List.mem_of_getElem? (i := 13) rfl)
theorem gw_206 : Cond.instanceMethod yX4_stop ∈ gG := gI9 (List.mem_of_getElem? (i := 14) rfl)
theorem gw_207 : Cond.selects RX4 yX4_stop yX4_stop ∈ gG := gI9 (List.mem_of_getElem? (i := 15) rfl)
theorem gw_208 : Cond.code yX4_stop cX4_stop 6 (some .int) ∈ gG := gI9 (List.mem_of_getElem? (i := 16) rfl)
theorem gw_209 : Cond.methodLink RX4 157 yX3_isDone ∈ gG := gI9 (List.mem_of_getElem? (i := 17) rfl)
theorem gw_210 : Cond.instanceMethod yX3_isDone ∈ gG := gI9 (List.mem_of_getElem? (i := 18) rfl)
theorem gw_211 : Cond.selects RX3 yX3_isDone yX3_isDone ∈ gG := gI9 (List.mem_of_getElem? (i := 19) rfl)
theorem gw_212 : Cond.code yX3_isDone cX3_isDone 1 (some .boolean) ∈ gG := gI9 (List.mem_of_getElem? (i := 20) rfl)
theorem gw_213 : Cond.methodLink RL 54 yX4_order ∈ gG := gI9 (List.mem_of_getElem? (i := 21) rfl)
theorem gw_214 : Cond.instanceMethod yX4_order ∈ gG := gI9 (List.mem_of_getElem? (i := 22) rfl)
theorem gw_215 : Cond.selects RX4 yX4_order yX4_order ∈ gG := gI9 (List.mem_of_getElem? (i := 23) rfl)
theorem gw_216 : Cond.code yX4_order cX4_order 4 (some .int) ∈ gG := gI10 (List.mem_of_getElem? (i := 0) rfl)
theorem gw_217 : Cond.fieldLink RX4 105 "SemaphoreBay$Line" "order" "I" ∈ gG := gI10 (List.mem_of_getElem? (i := 1) rfl)
theorem gw_218 : Cond.fieldLink RX4 108 "SemaphoreBay$Line" "stay" "I" ∈ gG := gI10 (List.mem_of_getElem? (i := 2) rfl)
theorem gw_219 : Cond.methodLink RL 57 yX4_digest ∈ gG := gI10 (List.mem_of_getElem? (i := 3) rfl)
theorem gw_220 : Cond.instanceMethod yX4_digest ∈ gG := gI10 (List.mem_of_getElem? (i := 4) rfl)
theorem gw_221 : Cond.selects RX4 yX4_digest yX4_digest ∈ gG := gI10 (List.mem_of_getElem? (i := 5) rfl)
theorem gw_222 : Cond.code yX4_digest cX4_digest 5 (some .long) ∈ gG := gI10 (List.mem_of_getElem? (i := 6) rfl)
theorem gw_223 : Cond.constantLong RX4 267 (58091) ∈ gG := gI10 (List.mem_of_getElem? (i := 7) rfl)
theorem gw_224 : Cond.methodLink RX4 269 yX4_clock ∈ gG := gI10 (List.mem_of_getElem? (i := 8) rfl)
theorem gw_225 : Cond.instanceMethod yX4_clock ∈ gG := gI10 (List.mem_of_getElem? (i := 9) rfl)
theorem gw_226 : Cond.selects RX4 yX4_clock yX4_clock ∈ gG := gI10 (List.mem_of_getElem? (i := 10) rfl)
theorem gw_227 : Cond.code yX4_clock cX4_clock 1 (some .int) ∈ gG := gI10 (List.mem_of_getElem? (i := 11) rfl)
theorem gw_228 : Cond.methodLink RX4 271 yX4_mixed ∈ gG := gI10 (List.mem_of_getElem? (i := 12) rfl)
theorem gw_229 : Cond.static yX4_mixed ∈ gG := gI10 (List.mem_of_getElem? (i := 13) rfl)
theorem gw_230 : Cond.code yX4_mixed cX4_mixed 3 (some .long) ∈ gG := gI10 (List.mem_of_getElem? (i := 14) rfl)
theorem gw_231 : Cond.constantLong RX4 297 (31) ∈ gG := gI10 (List.mem_of_getElem? (i := 15) rfl)
theorem gw_232 : Cond.methodLink RX4 275 yX4_many ∈ gG := gI10 (List.mem_of_getElem? (i := 16) rfl)
theorem gw_233 : Cond.instanceMethod yX4_many ∈ gG := gI10 (List.mem_of_getElem? (i := 17) rfl)
theorem gw_234 : Cond.selects RX4 yX4_many yX4_many ∈ gG := gI10 (List.mem_of_getElem? (i := 18) rfl)
theorem gw_235 : Cond.code yX4_many cX4_many 2 (some .int) ∈ gG := gI10 (List.mem_of_getElem? (i := 19) rfl)
theorem gw_236 : Cond.methodLink RX4 169 yX1_countDone ∈ gG := gI10 (List.mem_of_getElem? (i := 20) rfl)
theorem gw_237 : Cond.instanceMethod yX1_countDone ∈ gG := gI10 (List.mem_of_getElem? (i := 21) rfl)
theorem gw_238 : Cond.selects RX1 yX1_countDone yX1_countDone ∈ gG := gI10 (List.mem_of_getElem? (i := 22) rfl)
theorem gw_239 : Cond.code yX1_countDone cX1_countDone 3 (some .int) ∈ gG := gI10 (List.mem_of_getElem? (i := 23) rfl)
theorem gw_240 : Cond.methodLink RX1 235 yX3_isDone ∈ gG := gI11 (List.mem_of_getElem? (i := 0) rfl)
theorem gw_241 : Cond.methodLink RX4 173 yX1_countAtStations ∈ gG := gI11 (List.mem_of_getElem? (i := 1) rfl)
theorem gw_242 : Cond.instanceMethod yX1_countAtStations ∈ gG := gI11 (List.mem_of_getElem? (i := 2) rfl)
theorem gw_243 : Cond.selects RX1 yX1_countAtStations yX1_countAtStations ∈ gG := gI11 (List.mem_of_getElem? (i := 3) rfl)
theorem gw_244 : Cond.code yX1_countAtStations cX1_countAtStations 3 (some .int) ∈ gG := gI11 (List.mem_of_getElem? (i := 4) rfl)
theorem gw_245 : Cond.methodLink RX1 213 yX3_isAtStation ∈ gG := gI11 (List.mem_of_getElem? (i := 5) rfl)
theorem gw_246 : Cond.instanceMethod yX3_isAtStation ∈ gG := gI11 (List.mem_of_getElem? (i := 6) rfl)
theorem gw_247 : Cond.selects RX3 yX3_isAtStation yX3_isAtStation ∈ gG := gI11 (List.mem_of_getElem? (i := 7) rfl)
theorem gw_248 : Cond.code yX3_isAtStation cX3_isAtStation 1 (some .boolean) ∈ gG := gI11 (List.mem_of_getElem? (i := 8) rfl)
theorem gw_249 : Cond.methodLink RX4 176 yX1_countOnBlocks ∈ gG := gI11 (List.mem_of_getElem? (i := 9) rfl)
theorem gw_250 : Cond.instanceMethod yX1_countOnBlocks ∈ gG := gI11 (List.mem_of_getElem? (i := 10) rfl)
theorem gw_251 : Cond.selects RX1 yX1_countOnBlocks yX1_countOnBlocks ∈ gG := gI11 (List.mem_of_getElem? (i := 11) rfl)
theorem gw_252 : Cond.code yX1_countOnBlocks cX1_countOnBlocks 3 (some .int) ∈ gG := gI11 (List.mem_of_getElem? (i := 12) rfl)
theorem gw_253 : Cond.methodLink RX1 74 yX3_isOnBlock ∈ gG := gI11 (List.mem_of_getElem? (i := 13) rfl)
theorem gw_254 : Cond.instanceMethod yX3_isOnBlock ∈ gG := gI11 (List.mem_of_getElem? (i := 14) rfl)
theorem gw_255 : Cond.selects RX3 yX3_isOnBlock yX3_isOnBlock ∈ gG := gI11 (List.mem_of_getElem? (i := 15) rfl)
theorem gw_256 : Cond.code yX3_isOnBlock cX3_isOnBlock 1 (some .boolean) ∈ gG := gI11 (List.mem_of_getElem? (i := 16) rfl)
theorem gw_257 : Cond.methodLink RX4 179 yX1_countStuck ∈ gG := gI11 (List.mem_of_getElem? (i := 17) rfl)
theorem gw_258 : Cond.instanceMethod yX1_countStuck ∈ gG := gI11 (List.mem_of_getElem? (i := 18) rfl)
theorem gw_259 : Cond.selects RX1 yX1_countStuck yX1_countStuck ∈ gG := gI11 (List.mem_of_getElem? (i := 19) rfl)
theorem gw_260 : Cond.code yX1_countStuck cX1_countStuck 3 (some .int) ∈ gG := gI11 (List.mem_of_getElem? (i := 20) rfl)
theorem gw_261 : Cond.methodLink RX1 238 yX1_waitsForItself ∈ gG := gI11 (List.mem_of_getElem? (i := 21) rfl)
theorem gw_262 : Cond.instanceMethod yX1_waitsForItself ∈ gG := gI11 (List.mem_of_getElem? (i := 22) rfl)
theorem gw_263 : Cond.selects RX1 yX1_waitsForItself yX1_waitsForItself ∈ gG := gI11 (List.mem_of_getElem? (i := 23) rfl)
theorem gw_264 : Cond.code yX1_waitsForItself cX1_waitsForItself 4 (some .boolean) ∈ gG := gI12 (List.mem_of_getElem? (i := 0) rfl)
theorem gw_265 : Cond.fieldLink RX1 85 "SemaphoreBay$Train" "waitsFor" "I" ∈ gG := gI12 (List.mem_of_getElem? (i := 1) rfl)
theorem gw_266 : Cond.methodLink RX4 278 yX4_station ∈ gG := gI12 (List.mem_of_getElem? (i := 2) rfl)
theorem gw_267 : Cond.methodLink RX4 281 yX4_ofBlock ∈ gG := gI12 (List.mem_of_getElem? (i := 3) rfl)
theorem gw_268 : Cond.instanceMethod yX4_ofBlock ∈ gG := gI12 (List.mem_of_getElem? (i := 4) rfl)
theorem gw_269 : Cond.selects RX4 yX4_ofBlock yX4_ofBlock ∈ gG := gI12 (List.mem_of_getElem? (i := 5) rfl)
theorem gw_270 : Cond.code yX4_ofBlock cX4_ofBlock 4 (some .int) ∈ gG := gI12 (List.mem_of_getElem? (i := 6) rfl)
theorem gw_271 : Cond.fieldLink RX4 188 "SemaphoreBay$Block" "heldBy" "I" ∈ gG := gI12 (List.mem_of_getElem? (i := 7) rfl)
theorem gw_272 : Cond.fieldLink RX4 191 "SemaphoreBay$Block" "lockedFor" "I" ∈ gG := gI12 (List.mem_of_getElem? (i := 8) rfl)
theorem gw_273 : Cond.fieldLink RX4 98 "SemaphoreBay$Block" "shutTill" "I" ∈ gG := gI12 (List.mem_of_getElem? (i := 9) rfl)
theorem gw_274 : Cond.methodLink RX4 101 yX1_tillOrNone ∈ gG := gI12 (List.mem_of_getElem? (i := 10) rfl)
theorem gw_275 : Cond.instanceMethod yX1_tillOrNone ∈ gG := gI12 (List.mem_of_getElem? (i := 11) rfl)
theorem gw_276 : Cond.selects RX1 yX1_tillOrNone yX1_tillOrNone ∈ gG := gI12 (List.mem_of_getElem? (i := 12) rfl)
theorem gw_277 : Cond.code yX1_tillOrNone cX1_tillOrNone 2 (some .int) ∈ gG := gI12 (List.mem_of_getElem? (i := 13) rfl)
theorem gw_278 : Cond.fieldLink RX1 68 "SemaphoreBay$Line" "clock" "I" ∈ gG := gI12 (List.mem_of_getElem? (i := 14) rfl)
theorem gw_279 : Cond.methodLink RX4 284 yX4_mixedWithTrain ∈ gG := gI12 (List.mem_of_getElem? (i := 15) rfl)
theorem gw_280 : Cond.instanceMethod yX4_mixedWithTrain ∈ gG := gI12 (List.mem_of_getElem? (i := 16) rfl)
theorem gw_281 : Cond.selects RX4 yX4_mixedWithTrain yX4_mixedWithTrain ∈ gG := gI12 (List.mem_of_getElem? (i := 17) rfl)
theorem gw_282 : Cond.code yX4_mixedWithTrain cX4_mixedWithTrain 7 (some .long) ∈ gG := gI12 (List.mem_of_getElem? (i := 18) rfl)
theorem gw_283 : Cond.methodLink RX4 287 yX4_ofTrain ∈ gG := gI12 (List.mem_of_getElem? (i := 19) rfl)
theorem gw_284 : Cond.instanceMethod yX4_ofTrain ∈ gG := gI12 (List.mem_of_getElem? (i := 20) rfl)
theorem gw_285 : Cond.selects RX4 yX4_ofTrain yX4_ofTrain ∈ gG := gI12 (List.mem_of_getElem? (i := 21) rfl)
theorem gw_286 : Cond.code yX4_ofTrain cX4_ofTrain 4 (some .int) ∈ gG := gI12 (List.mem_of_getElem? (i := 22) rfl)
theorem gw_287 : Cond.fieldLink RX4 218 "SemaphoreBay$Train" "lastStop" "I" ∈ gG := gI12 (List.mem_of_getElem? (i := 23) rfl)
theorem gw_288 : Cond.fieldLink RX4 225 "SemaphoreBay$Train" "route" "I" ∈ gG := gI13 (List.mem_of_getElem? (i := 0) rfl)
theorem gw_289 : Cond.fieldLink RX4 228 "SemaphoreBay$Train" "left" "I" ∈ gG := gI13 (List.mem_of_getElem? (i := 1) rfl)
theorem gw_290 : Cond.fieldLink RX4 231 "SemaphoreBay$Train" "late" "I" ∈ gG := gI13 (List.mem_of_getElem? (i := 2) rfl)
theorem gw_291 : Cond.fieldLink RX4 234 "SemaphoreBay$Train" "waited" "I" ∈ gG := gI13 (List.mem_of_getElem? (i := 3) rfl)
theorem gw_292 : Cond.fieldLink RX4 163 "SemaphoreBay$Train" "heldBackTill" "I" ∈ gG := gI13 (List.mem_of_getElem? (i := 4) rfl)
theorem gw_293 : Cond.methodLink RX4 221 yX1_blockUnder ∈ gG := gI13 (List.mem_of_getElem? (i := 5) rfl)
theorem gw_294 : Cond.instanceMethod yX1_blockUnder ∈ gG := gI13 (List.mem_of_getElem? (i := 6) rfl)
theorem gw_295 : Cond.selects RX1 yX1_blockUnder yX1_blockUnder ∈ gG := gI13 (List.mem_of_getElem? (i := 7) rfl)
theorem gw_296 : Cond.code yX1_blockUnder cX1_blockUnder 3 (some .int) ∈ gG := gI13 (List.mem_of_getElem? (i := 8) rfl)
theorem gw_297 : Cond.fieldLink RX1 94 "SemaphoreBay$Train" "place" "I" ∈ gG := gI13 (List.mem_of_getElem? (i := 9) rfl)
theorem gw_298 : Cond.methodLink RX4 237 yX1_isReady ∈ gG := gI13 (List.mem_of_getElem? (i := 10) rfl)
theorem gw_299 : Cond.instanceMethod yX1_isReady ∈ gG := gI13 (List.mem_of_getElem? (i := 11) rfl)
theorem gw_300 : Cond.selects RX1 yX1_isReady yX1_isReady ∈ gG := gI13 (List.mem_of_getElem? (i := 12) rfl)
theorem gw_301 : Cond.code yX1_isReady cX1_isReady 2 (some .boolean) ∈ gG := gI13 (List.mem_of_getElem? (i := 13) rfl)
theorem gw_302 : Cond.fieldLink RX1 125 "SemaphoreBay$Train" "lastStop" "I" ∈ gG := gI13 (List.mem_of_getElem? (i := 14) rfl)
theorem gw_303 : Cond.fieldLink RX1 128 "SemaphoreBay$Train" "cameAt" "I" ∈ gG := gI13 (List.mem_of_getElem? (i := 15) rfl)
theorem gw_304 : Cond.fieldLink RX1 216 "SemaphoreBay$Train" "heldBackTill" "I" ∈ gG := gI13 (List.mem_of_getElem? (i := 16) rfl)
theorem gw_305 : Cond.methodLink RX1 131 yX3_isAtLastStop ∈ gG := gI13 (List.mem_of_getElem? (i := 17) rfl)
theorem gw_306 : Cond.instanceMethod yX3_isAtLastStop ∈ gG := gI13 (List.mem_of_getElem? (i := 18) rfl)
theorem gw_307 : Cond.selects RX3 yX3_isAtLastStop yX3_isAtLastStop ∈ gG := gI13 (List.mem_of_getElem? (i := 19) rfl)
theorem gw_308 : Cond.code yX3_isAtLastStop cX3_isAtLastStop 1 (some .boolean) ∈ gG := gI13 (List.mem_of_getElem? (i := 20) rfl)
theorem gw_309 : Cond.fieldLink RX3 46 "SemaphoreBay$Train" "lastStop" "I" ∈ gG := gI13 (List.mem_of_getElem? (i := 21) rfl)
theorem gw_310 : Cond.methodLink RX1 176 yX3_timeOf ∈ gG := gI13 (List.mem_of_getElem? (i := 22) rfl)
theorem gw_311 : Cond.methodLink RX4 241 yX3_isAtEndOfBlock ∈ gG := gI13 (List.mem_of_getElem? (i := 23) rfl)
theorem gw_312 : Cond.instanceMethod yX3_isAtEndOfBlock ∈ gG := gI14 (List.mem_of_getElem? (i := 0) rfl)
theorem gw_313 : Cond.selects RX3 yX3_isAtEndOfBlock yX3_isAtEndOfBlock ∈ gG := gI14 (List.mem_of_getElem? (i := 1) rfl)
theorem gw_314 : Cond.code yX3_isAtEndOfBlock cX3_isAtEndOfBlock 1 (some .boolean) ∈ gG := gI14 (List.mem_of_getElem? (i := 2) rfl)
theorem gw_315 : Cond.fieldLink RX3 55 "SemaphoreBay$Train" "left" "I" ∈ gG := gI14 (List.mem_of_getElem? (i := 3) rfl)
theorem gw_316 : Cond.methodLink RX4 290 yX4_waitsFor ∈ gG := gI14 (List.mem_of_getElem? (i := 4) rfl)
theorem gw_317 : Cond.instanceMethod yX4_waitsFor ∈ gG := gI14 (List.mem_of_getElem? (i := 5) rfl)
theorem gw_318 : Cond.selects RX4 yX4_waitsFor yX4_waitsFor ∈ gG := gI14 (List.mem_of_getElem? (i := 6) rfl)
theorem gw_319 : Cond.code yX4_waitsFor cX4_waitsFor 2 (some .int) ∈ gG := gI14 (List.mem_of_getElem? (i := 7) rfl)
theorem gw_320 : Cond.fieldLink RX4 247 "SemaphoreBay$Train" "waitsFor" "I" ∈ gG := gI14 (List.mem_of_getElem? (i := 8) rfl)
theorem gw_321 : Cond.methodLink RX4 292 yX4_isStuck ∈ gG := gI14 (List.mem_of_getElem? (i := 9) rfl)
theorem gw_322 : Cond.instanceMethod yX4_isStuck ∈ gG := gI14 (List.mem_of_getElem? (i := 10) rfl)
theorem gw_323 : Cond.selects RX4 yX4_isStuck yX4_isStuck ∈ gG := gI14 (List.mem_of_getElem? (i := 11) rfl)
theorem gw_324 : Cond.code yX4_isStuck cX4_isStuck 2 (some .boolean) ∈ gG := gI14 (List.mem_of_getElem? (i := 12) rfl)
theorem gw_325 : Cond.methodLink RX4 250 yX1_waitsForItself ∈ gG := gI14 (List.mem_of_getElem? (i := 13) rfl)
theorem gw_326 : Cond.methodLink RX4 295 yX4_waitedFor ∈ gG := gI14 (List.mem_of_getElem? (i := 14) rfl)
theorem gw_327 : Cond.instanceMethod yX4_waitedFor ∈ gG := gI14 (List.mem_of_getElem? (i := 15) rfl)
theorem gw_328 : Cond.selects RX4 yX4_waitedFor yX4_waitedFor ∈ gG := gI14 (List.mem_of_getElem? (i := 16) rfl)
theorem gw_329 : Cond.code yX4_waitedFor cX4_waitedFor 3 (some .int) ∈ gG := gI14 (List.mem_of_getElem? (i := 17) rfl)
theorem gw_330 : Cond.fieldLink RX4 244 "SemaphoreBay$Train" "waitedFor" "[I" ∈ gG := gI14 (List.mem_of_getElem? (i := 18) rfl)
theorem gw_331 : Cond.methodLink RL 61 yX4_stuckIn ∈ gG := gI14 (List.mem_of_getElem? (i := 19) rfl)
theorem gw_332 : Cond.instanceMethod yX4_stuckIn ∈ gG := gI14 (List.mem_of_getElem? (i := 20) rfl)
theorem gw_333 : Cond.selects RX4 yX4_stuckIn yX4_stuckIn ∈ gG := gI14 (List.mem_of_getElem? (i := 21) rfl)
theorem gw_334 : Cond.code yX4_stuckIn cX4_stuckIn 3 (some .int) ∈ gG := gI14 (List.mem_of_getElem? (i := 22) rfl)
theorem gw_335 : Cond.methodLink RX4 260 yX1_takeFrom ∈ gG := gI14 (List.mem_of_getElem? (i := 23) rfl)
theorem gw_336 : Cond.instanceMethod yX1_takeFrom ∈ gG := gI15 (List.mem_of_getElem? (i := 0) rfl)
theorem gw_337 : Cond.selects RX1 yX1_takeFrom yX1_takeFrom ∈ gG := gI15 (List.mem_of_getElem? (i := 1) rfl)
theorem gw_338 : Cond.code yX1_takeFrom cX1_takeFrom 3 none ∈ gG := gI15 (List.mem_of_getElem? (i := 2) rfl)
theorem gw_339 : Cond.methodLink RX1 40 arraycopyName ∈ gG := gI15 (List.mem_of_getElem? (i := 3) rfl)
theorem gw_340 : Cond.native arraycopyName ∈ gG := gI15 (List.mem_of_getElem? (i := 4) rfl)
theorem gw_341 : Cond.static arraycopyName ∈ gG := gI15 (List.mem_of_getElem? (i := 5) rfl)
theorem gw_342 : Cond.initialized "java/lang/System" ∈ gG := gI15 (List.mem_of_getElem? (i := 6) rfl)
theorem gw_343 : Cond.fieldLink RX1 65 "SemaphoreBay$Line" "order" "I" ∈ gG := gI15 (List.mem_of_getElem? (i := 7) rfl)
theorem gw_344 : Cond.methodLink RX1 49 yX0_takeFrom ∈ gG := gI15 (List.mem_of_getElem? (i := 8) rfl)
theorem gw_345 : Cond.instanceMethod yX0_takeFrom ∈ gG := gI15 (List.mem_of_getElem? (i := 9) rfl)
theorem gw_346 : Cond.selects RX0 yX0_takeFrom yX0_takeFrom ∈ gG := gI15 (List.mem_of_getElem? (i := 10) rfl)
theorem gw_347 : Cond.code yX0_takeFrom cX0_takeFrom 2 none ∈ gG := gI15 (List.mem_of_getElem? (i := 11) rfl)
theorem gw_348 : Cond.fieldLink RX0 18 "SemaphoreBay$Block" "length" "I" ∈ gG := gI15 (List.mem_of_getElem? (i := 12) rfl)
theorem gw_349 : Cond.fieldLink RX0 21 "SemaphoreBay$Block" "shutTill" "I" ∈ gG := gI15 (List.mem_of_getElem? (i := 13) rfl)
theorem gw_350 : Cond.methodLink RX1 56 yX2_takeFrom ∈ gG := gI15 (List.mem_of_getElem? (i := 14) rfl)
theorem gw_351 : Cond.instanceMethod yX2_takeFrom ∈ gG := gI15 (List.mem_of_getElem? (i := 15) rfl)
theorem gw_352 : Cond.selects RX2 yX2_takeFrom yX2_takeFrom ∈ gG := gI15 (List.mem_of_getElem? (i := 16) rfl)
theorem gw_353 : Cond.code yX2_takeFrom cX2_takeFrom 3 none ∈ gG := gI15 (List.mem_of_getElem? (i := 17) rfl)
theorem gw_354 : Cond.methodLink RX2 29 yX2_lay ∈ gG := gI15 (List.mem_of_getElem? (i := 18) rfl)
theorem gw_355 : Cond.methodLink RX2 37 yX2_addBlock ∈ gG := gI15 (List.mem_of_getElem? (i := 19) rfl)
theorem gw_356 : Cond.methodLink RX1 62 yX3_takeFrom ∈ gG := gI15 (List.mem_of_getElem? (i := 20) rfl)
theorem gw_357 : Cond.instanceMethod yX3_takeFrom ∈ gG := gI15 (List.mem_of_getElem? (i := 21) rfl)
theorem gw_358 : Cond.selects RX3 yX3_takeFrom yX3_takeFrom ∈ gG := gI15 (List.mem_of_getElem? (i := 22) rfl)
theorem gw_359 : Cond.code yX3_takeFrom cX3_takeFrom 2 none ∈ gG := gI15 (List.mem_of_getElem? (i := 23) rfl)
theorem gw_360 : Cond.fieldLink RX3 31 "SemaphoreBay$Train" "rank" "I" ∈ gG := gI16 (List.mem_of_getElem? (i := 0) rfl)
theorem gw_361 : Cond.fieldLink RX3 34 "SemaphoreBay$Train" "pace" "I" ∈ gG := gI16 (List.mem_of_getElem? (i := 1) rfl)
theorem gw_362 : Cond.methodLink RX3 40 arraycopyName ∈ gG := gI16 (List.mem_of_getElem? (i := 2) rfl)
theorem gw_363 : Cond.fieldLink RX3 49 "SemaphoreBay$Train" "cameAt" "I" ∈ gG := gI16 (List.mem_of_getElem? (i := 3) rfl)
theorem gw_364 : Cond.fieldLink RX3 52 "SemaphoreBay$Train" "place" "I" ∈ gG := gI16 (List.mem_of_getElem? (i := 4) rfl)
theorem gw_365 : Cond.fieldLink RX3 58 "SemaphoreBay$Train" "heldBackTill" "I" ∈ gG := gI16 (List.mem_of_getElem? (i := 5) rfl)
theorem gw_366 : Cond.fieldLink RX3 61 "SemaphoreBay$Train" "late" "I" ∈ gG := gI16 (List.mem_of_getElem? (i := 6) rfl)
theorem gw_367 : Cond.fieldLink RX3 64 "SemaphoreBay$Train" "waited" "I" ∈ gG := gI16 (List.mem_of_getElem? (i := 7) rfl)
theorem gw_368 : Cond.methodLink RX4 166 yX1_passTicks ∈ gG := gI16 (List.mem_of_getElem? (i := 8) rfl)
theorem gw_369 : Cond.instanceMethod yX1_passTicks ∈ gG := gI16 (List.mem_of_getElem? (i := 9) rfl)
theorem gw_370 : Cond.selects RX1 yX1_passTicks yX1_passTicks ∈ gG := gI16 (List.mem_of_getElem? (i := 10) rfl)
theorem gw_371 : Cond.code yX1_passTicks cX1_passTicks 4 none ∈ gG := gI16 (List.mem_of_getElem? (i := 11) rfl)
theorem gw_372 : Cond.methodLink RX1 71 yX1_forgetWhoWaits ∈ gG := gI16 (List.mem_of_getElem? (i := 12) rfl)
theorem gw_373 : Cond.instanceMethod yX1_forgetWhoWaits ∈ gG := gI16 (List.mem_of_getElem? (i := 13) rfl)
theorem gw_374 : Cond.selects RX1 yX1_forgetWhoWaits yX1_forgetWhoWaits ∈ gG := gI16 (List.mem_of_getElem? (i := 14) rfl)
theorem gw_375 : Cond.code yX1_forgetWhoWaits cX1_forgetWhoWaits 2 none ∈ gG := gI16 (List.mem_of_getElem? (i := 15) rfl)
theorem gw_376 : Cond.methodLink RX1 78 yX1_roll ∈ gG := gI16 (List.mem_of_getElem? (i := 16) rfl)
theorem gw_377 : Cond.instanceMethod yX1_roll ∈ gG := gI16 (List.mem_of_getElem? (i := 17) rfl)
theorem gw_378 : Cond.selects RX1 yX1_roll yX1_roll ∈ gG := gI16 (List.mem_of_getElem? (i := 18) rfl)
theorem gw_379 : Cond.code yX1_roll cX1_roll 5 none ∈ gG := gI16 (List.mem_of_getElem? (i := 19) rfl)
theorem gw_380 : Cond.fieldLink RX1 88 "SemaphoreBay$Train" "left" "I" ∈ gG := gI16 (List.mem_of_getElem? (i := 20) rfl)
theorem gw_381 : Cond.methodLink RX1 100 yX1_comeToStation ∈ gG := gI16 (List.mem_of_getElem? (i := 21) rfl)
theorem gw_382 : Cond.instanceMethod yX1_comeToStation ∈ gG := gI16 (List.mem_of_getElem? (i := 22) rfl)
theorem gw_383 : Cond.selects RX1 yX1_comeToStation yX1_comeToStation ∈ gG := gI16 (List.mem_of_getElem? (i := 23) rfl)
theorem gw_384 : Cond.code yX1_comeToStation cX1_comeToStation 2 none ∈ gG := gI17 (List.mem_of_getElem? (i := 0) rfl)
theorem gw_385 : Cond.methodLink RX1 111 yX1_leaveBlock ∈ gG := gI17 (List.mem_of_getElem? (i := 1) rfl)
theorem gw_386 : Cond.instanceMethod yX1_leaveBlock ∈ gG := gI17 (List.mem_of_getElem? (i := 2) rfl)
theorem gw_387 : Cond.selects RX1 yX1_leaveBlock yX1_leaveBlock ∈ gG := gI17 (List.mem_of_getElem? (i := 3) rfl)
theorem gw_388 : Cond.code yX1_leaveBlock cX1_leaveBlock 3 none ∈ gG := gI17 (List.mem_of_getElem? (i := 4) rfl)
theorem gw_389 : Cond.fieldLink RX1 147 "SemaphoreBay$Block" "heldBy" "I" ∈ gG := gI17 (List.mem_of_getElem? (i := 5) rfl)
theorem gw_390 : Cond.methodLink RX1 143 yX1_blockUnder ∈ gG := gI17 (List.mem_of_getElem? (i := 6) rfl)
theorem gw_391 : Cond.methodLink RX1 134 yX3_beLate ∈ gG := gI17 (List.mem_of_getElem? (i := 7) rfl)
theorem gw_392 : Cond.instanceMethod yX3_beLate ∈ gG := gI17 (List.mem_of_getElem? (i := 8) rfl)
theorem gw_393 : Cond.selects RX3 yX3_beLate yX3_beLate ∈ gG := gI17 (List.mem_of_getElem? (i := 9) rfl)
theorem gw_394 : Cond.code yX3_beLate cX3_beLate 2 none ∈ gG := gI17 (List.mem_of_getElem? (i := 10) rfl)
theorem gw_395 : Cond.methodLink RX3 71 Lib.Math.max.name ∈ gG := gI17 (List.mem_of_getElem? (i := 11) rfl)
theorem gw_396 : Cond.static Lib.Math.max.name ∈ gG := gI17 (List.mem_of_getElem? (i := 12) rfl)
theorem gw_397 : Cond.initialized "java/lang/Math" ∈ gG := gI17 (List.mem_of_getElem? (i := 13) rfl)
theorem gw_398 : Cond.code Lib.Math.max.name Lib.Math.max.code 2 (some .int) ∈ gG := gI17 (List.mem_of_getElem? (i := 14) rfl)
theorem gw_399 : Cond.methodLink RX3 67 yX3_timeOf ∈ gG := gI17 (List.mem_of_getElem? (i := 15) rfl)
theorem gw_400 : Cond.methodLink RX1 137 yX3_stationOf ∈ gG := gI17 (List.mem_of_getElem? (i := 16) rfl)
theorem gw_401 : Cond.methodLink RX1 107 yX1_isClearFor ∈ gG := gI17 (List.mem_of_getElem? (i := 17) rfl)
theorem gw_402 : Cond.instanceMethod yX1_isClearFor ∈ gG := gI17 (List.mem_of_getElem? (i := 18) rfl)
theorem gw_403 : Cond.selects RX1 yX1_isClearFor yX1_isClearFor ∈ gG := gI17 (List.mem_of_getElem? (i := 19) rfl)
theorem gw_404 : Cond.code yX1_isClearFor cX1_isClearFor 5 (some .boolean) ∈ gG := gI17 (List.mem_of_getElem? (i := 20) rfl)
theorem gw_405 : Cond.fieldLink RX1 156 "SemaphoreBay$Block" "lockedFor" "I" ∈ gG := gI17 (List.mem_of_getElem? (i := 21) rfl)
theorem gw_406 : Cond.fieldLink RX1 226 "SemaphoreBay$Block" "shutTill" "I" ∈ gG := gI17 (List.mem_of_getElem? (i := 22) rfl)
theorem gw_407 : Cond.methodLink RX1 114 yX1_enter ∈ gG := gI17 (List.mem_of_getElem? (i := 23) rfl)
theorem gw_408 : Cond.instanceMethod yX1_enter ∈ gG := gI18 (List.mem_of_getElem? (i := 0) rfl)
theorem gw_409 : Cond.selects RX1 yX1_enter yX1_enter ∈ gG := gI18 (List.mem_of_getElem? (i := 1) rfl)
theorem gw_410 : Cond.code yX1_enter cX1_enter 6 none ∈ gG := gI18 (List.mem_of_getElem? (i := 2) rfl)
theorem gw_411 : Cond.fieldLink RX1 153 "SemaphoreBay$Train" "pace" "I" ∈ gG := gI18 (List.mem_of_getElem? (i := 3) rfl)
theorem gw_412 : Cond.methodLink RX1 118 yX1_trainInTheWay ∈ gG := gI18 (List.mem_of_getElem? (i := 4) rfl)
theorem gw_413 : Cond.instanceMethod yX1_trainInTheWay ∈ gG := gI18 (List.mem_of_getElem? (i := 5) rfl)
theorem gw_414 : Cond.selects RX1 yX1_trainInTheWay yX1_trainInTheWay ∈ gG := gI18 (List.mem_of_getElem? (i := 6) rfl)
theorem gw_415 : Cond.code yX1_trainInTheWay cX1_trainInTheWay 4 (some .int) ∈ gG := gI18 (List.mem_of_getElem? (i := 7) rfl)
theorem gw_416 : Cond.methodLink RX1 122 yX3_waitOneTick ∈ gG := gI18 (List.mem_of_getElem? (i := 8) rfl)
theorem gw_417 : Cond.instanceMethod yX3_waitOneTick ∈ gG := gI18 (List.mem_of_getElem? (i := 9) rfl)
theorem gw_418 : Cond.selects RX3 yX3_waitOneTick yX3_waitOneTick ∈ gG := gI18 (List.mem_of_getElem? (i := 10) rfl)
theorem gw_419 : Cond.code yX3_waitOneTick cX3_waitOneTick 2 none ∈ gG := gI18 (List.mem_of_getElem? (i := 11) rfl)
theorem gw_420 : Cond.methodLink RX1 82 yX1_giveTurns ∈ gG := gI18 (List.mem_of_getElem? (i := 12) rfl)
theorem gw_421 : Cond.instanceMethod yX1_giveTurns ∈ gG := gI18 (List.mem_of_getElem? (i := 13) rfl)
theorem gw_422 : Cond.selects RX1 yX1_giveTurns yX1_giveTurns ∈ gG := gI18 (List.mem_of_getElem? (i := 14) rfl)
theorem gw_423 : Cond.code yX1_giveTurns cX1_giveTurns 4 none ∈ gG := gI18 (List.mem_of_getElem? (i := 15) rfl)
theorem gw_424 : Cond.methodLink RX1 159 yX1_firstReady ∈ gG := gI18 (List.mem_of_getElem? (i := 16) rfl)
theorem gw_425 : Cond.instanceMethod yX1_firstReady ∈ gG := gI18 (List.mem_of_getElem? (i := 17) rfl)
theorem gw_426 : Cond.selects RX1 yX1_firstReady yX1_firstReady ∈ gG := gI18 (List.mem_of_getElem? (i := 18) rfl)
theorem gw_427 : Cond.code yX1_firstReady cX1_firstReady 5 (some .int) ∈ gG := gI18 (List.mem_of_getElem? (i := 19) rfl)
theorem gw_428 : Cond.methodLink RX1 165 yX1_isReady ∈ gG := gI18 (List.mem_of_getElem? (i := 20) rfl)
theorem gw_429 : Cond.methodLink RX1 169 yX1_goesAhead ∈ gG := gI18 (List.mem_of_getElem? (i := 21) rfl)
theorem gw_430 : Cond.instanceMethod yX1_goesAhead ∈ gG := gI18 (List.mem_of_getElem? (i := 22) rfl)
theorem gw_431 : Cond.selects RX1 yX1_goesAhead yX1_goesAhead ∈ gG := gI18 (List.mem_of_getElem? (i := 23) rfl)
theorem gw_432 : Cond.code yX1_goesAhead cX1_goesAhead 3 (some .boolean) ∈ gG := gI19 (List.mem_of_getElem? (i := 0) rfl)
theorem gw_433 : Cond.fieldLink RX1 173 "SemaphoreBay$Train" "rank" "I" ∈ gG := gI19 (List.mem_of_getElem? (i := 1) rfl)
theorem gw_434 : Cond.methodLink RX1 162 yX1_takeTurn ∈ gG := gI19 (List.mem_of_getElem? (i := 2) rfl)
theorem gw_435 : Cond.instanceMethod yX1_takeTurn ∈ gG := gI19 (List.mem_of_getElem? (i := 3) rfl)
theorem gw_436 : Cond.selects RX1 yX1_takeTurn yX1_takeTurn ∈ gG := gI19 (List.mem_of_getElem? (i := 4) rfl)
theorem gw_437 : Cond.code yX1_takeTurn cX1_takeTurn 4 none ∈ gG := gI19 (List.mem_of_getElem? (i := 5) rfl)
theorem gw_438 : Cond.methodLink RX1 179 yX1_leadsOn ∈ gG := gI19 (List.mem_of_getElem? (i := 6) rfl)
theorem gw_439 : Cond.instanceMethod yX1_leadsOn ∈ gG := gI19 (List.mem_of_getElem? (i := 7) rfl)
theorem gw_440 : Cond.selects RX1 yX1_leadsOn yX1_leadsOn ∈ gG := gI19 (List.mem_of_getElem? (i := 8) rfl)
theorem gw_441 : Cond.code yX1_leadsOn cX1_leadsOn 3 (some .boolean) ∈ gG := gI19 (List.mem_of_getElem? (i := 9) rfl)
theorem gw_442 : Cond.methodLink RX1 195 yX2_joins ∈ gG := gI19 (List.mem_of_getElem? (i := 10) rfl)
theorem gw_443 : Cond.instanceMethod yX2_joins ∈ gG := gI19 (List.mem_of_getElem? (i := 11) rfl)
theorem gw_444 : Cond.selects RX2 yX2_joins yX2_joins ∈ gG := gI19 (List.mem_of_getElem? (i := 12) rfl)
theorem gw_445 : Cond.code yX2_joins cX2_joins 3 (some .boolean) ∈ gG := gI19 (List.mem_of_getElem? (i := 13) rfl)
theorem gw_446 : Cond.methodLink RX1 183 yX1_isOpenFor ∈ gG := gI19 (List.mem_of_getElem? (i := 14) rfl)
theorem gw_447 : Cond.instanceMethod yX1_isOpenFor ∈ gG := gI19 (List.mem_of_getElem? (i := 15) rfl)
theorem gw_448 : Cond.selects RX1 yX1_isOpenFor yX1_isOpenFor ∈ gG := gI19 (List.mem_of_getElem? (i := 16) rfl)
theorem gw_449 : Cond.code yX1_isOpenFor cX1_isOpenFor 3 (some .boolean) ∈ gG := gI19 (List.mem_of_getElem? (i := 17) rfl)
theorem gw_450 : Cond.methodLink RX1 222 yX1_hasRoom ∈ gG := gI19 (List.mem_of_getElem? (i := 18) rfl)
theorem gw_451 : Cond.methodLink RX1 206 yX1_firstNotClear ∈ gG := gI19 (List.mem_of_getElem? (i := 19) rfl)
theorem gw_452 : Cond.instanceMethod yX1_firstNotClear ∈ gG := gI19 (List.mem_of_getElem? (i := 20) rfl)
theorem gw_453 : Cond.selects RX1 yX1_firstNotClear yX1_firstNotClear ∈ gG := gI19 (List.mem_of_getElem? (i := 21) rfl)
theorem gw_454 : Cond.code yX1_firstNotClear cX1_firstNotClear 4 (some .int) ∈ gG := gI19 (List.mem_of_getElem? (i := 22) rfl)
theorem gw_455 : Cond.methodLink RX1 209 yX2_countToBeClear ∈ gG := gI19 (List.mem_of_getElem? (i := 23) rfl)
theorem gw_456 : Cond.instanceMethod yX2_countToBeClear ∈ gG := gI20 (List.mem_of_getElem? (i := 0) rfl)
theorem gw_457 : Cond.selects RX2 yX2_countToBeClear yX2_countToBeClear ∈ gG := gI20 (List.mem_of_getElem? (i := 1) rfl)
theorem gw_458 : Cond.code yX2_countToBeClear cX2_countToBeClear 1 (some .int) ∈ gG := gI20 (List.mem_of_getElem? (i := 2) rfl)
theorem gw_459 : Cond.methodLink RX1 187 yX1_setOut ∈ gG := gI20 (List.mem_of_getElem? (i := 3) rfl)
theorem gw_460 : Cond.instanceMethod yX1_setOut ∈ gG := gI20 (List.mem_of_getElem? (i := 4) rfl)
theorem gw_461 : Cond.selects RX1 yX1_setOut yX1_setOut ∈ gG := gI20 (List.mem_of_getElem? (i := 5) rfl)
theorem gw_462 : Cond.code yX1_setOut cX1_setOut 3 none ∈ gG := gI20 (List.mem_of_getElem? (i := 6) rfl)
theorem gw_463 : Cond.fieldLink RX1 198 "SemaphoreBay$Route" "isWhole" "Z" ∈ gG := gI20 (List.mem_of_getElem? (i := 7) rfl)
theorem gw_464 : Cond.methodLink RX1 202 yX1_lockRest ∈ gG := gI20 (List.mem_of_getElem? (i := 8) rfl)
theorem gw_465 : Cond.instanceMethod yX1_lockRest ∈ gG := gI20 (List.mem_of_getElem? (i := 9) rfl)
theorem gw_466 : Cond.selects RX1 yX1_lockRest yX1_lockRest ∈ gG := gI20 (List.mem_of_getElem? (i := 10) rfl)
theorem gw_467 : Cond.code yX1_lockRest cX1_lockRest 5 none ∈ gG := gI20 (List.mem_of_getElem? (i := 11) rfl)
theorem gw_468 : Cond.methodLink RX1 191 yX1_blameOn ∈ gG := gI20 (List.mem_of_getElem? (i := 12) rfl)
theorem gw_469 : Cond.instanceMethod yX1_blameOn ∈ gG := gI20 (List.mem_of_getElem? (i := 13) rfl)
theorem gw_470 : Cond.selects RX1 yX1_blameOn yX1_blameOn ∈ gG := gI20 (List.mem_of_getElem? (i := 14) rfl)
theorem gw_471 : Cond.code yX1_blameOn cX1_blameOn 3 (some .int) ∈ gG := gI20 (List.mem_of_getElem? (i := 15) rfl)
theorem gw_472 : Cond.methodLink RL 64 yX4_doneIn ∈ gG := gI20 (List.mem_of_getElem? (i := 16) rfl)
theorem gw_473 : Cond.instanceMethod yX4_doneIn ∈ gG := gI20 (List.mem_of_getElem? (i := 17) rfl)
theorem gw_474 : Cond.selects RX4 yX4_doneIn yX4_doneIn ∈ gG := gI20 (List.mem_of_getElem? (i := 18) rfl)
theorem gw_475 : Cond.code yX4_doneIn cX4_doneIn 4 (some .int) ∈ gG := gI20 (List.mem_of_getElem? (i := 19) rfl)
theorem gw_476 : Cond.methodLink RL 67 yX4_tick ∈ gG := gI20 (List.mem_of_getElem? (i := 20) rfl)
theorem gw_477 : Cond.instanceMethod yX4_tick ∈ gG := gI20 (List.mem_of_getElem? (i := 21) rfl)
theorem gw_478 : Cond.selects RX4 yX4_tick yX4_tick ∈ gG := gI20 (List.mem_of_getElem? (i := 22) rfl)
theorem gw_479 : Cond.code yX4_tick cX4_tick 2 (some .int) ∈ gG := gI20 (List.mem_of_getElem? (i := 23) rfl)
theorem gw_480 : Cond.methodLink RL 70 yX4_many ∈ gG := gI21 (List.mem_of_getElem? (i := 0) rfl)
theorem gw_481 : Cond.methodLink RL 73 yX4_ofTrain ∈ gG := gI21 (List.mem_of_getElem? (i := 1) rfl)
theorem gw_482 : Cond.methodLink RL 76 yX4_ofBlock ∈ gG := gI21 (List.mem_of_getElem? (i := 2) rfl)
theorem gw_483 : Cond.methodLink RL 79 yX4_isStuck ∈ gG := gI21 (List.mem_of_getElem? (i := 3) rfl)
theorem gw_484 : Cond.methodLink RL 83 yX4_waitsFor ∈ gG := gI21 (List.mem_of_getElem? (i := 4) rfl)
theorem gw_485 : Cond.methodLink RL 86 yX4_waitedFor ∈ gG := gI21 (List.mem_of_getElem? (i := 5) rfl)
theorem gG_good : gG.all goodWord = true := by decide +kernel
theorem gsub (ws : List Cond) (ps : List Nat) (hp : ws = ps.filterMap (fun i => lw_tbl[i]?)) : ∀ w ∈ ws, w ∈ lw_tbl := by
  intro w hw
  rw [hp] at hw
  obtain ⟨i, -, hi⟩ := List.mem_filterMap.mp hw
  exact List.mem_of_getElem? hi
set_option maxRecDepth 20000 in
theorem gP1 : ∀ w ∈ gG1, w ∈ lw_tbl := gsub _ [35, 36, 22, 81, 37, 38, 39, 40, 41, 42, 43, 44, 23, 228, 229, 45, 46, 47, 48, 187, 49, 189, 51, 193] (by rfl)
set_option maxRecDepth 20000 in
theorem gP2 : ∀ w ∈ gG2, w ∈ lw_tbl := gsub _ [53, 197, 203, 55, 24, 82, 25, 110, 26, 57, 58, 59, 63, 66, 84, 85, 86, 98, 112, 113, 114, 123, 124, 128] (by rfl)
set_option maxRecDepth 20000 in
theorem gP3 : ∀ w ∈ gG3, w ∈ lw_tbl := gsub _ [134, 149, 152, 695, 696, 21, 697, 698, 691, 692, 693, 694, 235, 236, 237, 238, 310, 31, 192, 190, 61, 239, 240, 241] (by rfl)
set_option maxRecDepth 20000 in
theorem gP4 : ∀ w ∈ gG4, w ∈ lw_tbl := gsub _ [242, 30, 326, 327, 328, 329, 196, 194, 330, 331, 332, 333, 334, 335, 336, 32, 352, 354, 1, 355, 358, 359, 360, 361] (by rfl)
set_option maxRecDepth 20000 in
theorem gP5 : ∀ w ∈ gG5, w ∈ lw_tbl := gsub _ [87, 89, 92, 95, 362, 363, 364, 365, 599, 600, 601, 602, 88, 90, 96, 94, 370, 372, 2, 373, 603, 604, 605, 606] (by rfl)
set_option maxRecDepth 20000 in
theorem gP6 : ∀ w ∈ gG6, w ∈ lw_tbl := gsub _ [607, 608, 609, 97, 191, 62, 467, 379, 380, 381, 594, 595, 596, 597, 598, 366, 367, 368, 369, 374, 375, 376, 377, 378] (by rfl)
set_option maxRecDepth 20000 in
theorem gP7 : ∀ w ∈ gG7, w ∈ lw_tbl := gsub _ [383, 384, 385, 386, 199, 135, 580, 581, 582, 583, 188, 584, 401, 402, 403, 129, 585, 405, 406, 407, 195, 91, 392, 393] (by rfl)
set_option maxRecDepth 20000 in
theorem gP8 : ∀ w ∈ gG8, w ∈ lw_tbl := gsub _ [394, 395, 200, 198, 116, 120, 130, 206, 133, 396, 397, 398, 399, 400, 404, 409, 410, 411, 412, 121, 620, 621, 622, 623] (by rfl)
set_option maxRecDepth 20000 in
theorem gP9 : ∀ w ∈ gG9, w ∈ lw_tbl := gsub _ [122, 417, 419, 3, 420, 421, 422, 423, 424, 425, 426, 427, 428, 413, 414, 415, 416, 430, 431, 432, 433, 388, 389, 390] (by rfl)
set_option maxRecDepth 20000 in
theorem gP10 : ∀ w ∈ gG10, w ∈ lw_tbl := gsub _ [391, 202, 204, 667, 668, 669, 670, 671, 672, 673, 674, 675, 676, 677, 678, 679, 680, 561, 562, 563, 555, 556, 557, 558] (by rfl)
set_option maxRecDepth 20000 in
theorem gP11 : ∀ w ∈ gG11, w ∈ lw_tbl := gsub _ [559, 564, 565, 566, 567, 509, 510, 511, 512, 568, 569, 570, 571, 447, 448, 449, 450, 572, 573, 574, 575, 576, 577, 578] (by rfl)
set_option maxRecDepth 20000 in
theorem gP12 : ∀ w ∈ gG12, w ∈ lw_tbl := gsub _ [579, 150, 681, 682, 587, 588, 589, 65, 68, 70, 590, 591, 592, 593, 205, 683, 685, 20, 686, 687, 611, 612, 613, 127] (by rfl)
set_option maxRecDepth 20000 in
theorem gP13 : ∀ w ∈ gG13, w ∈ lw_tbl := gsub _ [136, 141, 146, 148, 144, 614, 464, 465, 466, 138, 615, 506, 507, 508, 126, 132, 143, 468, 469, 470, 471, 125, 513, 616] (by rfl)
set_option maxRecDepth 20000 in
theorem gP14 : ∀ w ∈ gG14, w ∈ lw_tbl := gsub _ [617, 618, 619, 139, 688, 629, 630, 631, 151, 689, 633, 634, 635, 636, 690, 625, 626, 627, 153, 663, 664, 665, 666, 641] (by rfl)
set_option maxRecDepth 20000 in
theorem gP15 : ∀ w ∈ gG15, w ∈ lw_tbl := gsub _ [642, 643, 644, 645, 647, 646, 33, 201, 648, 649, 650, 651, 60, 69, 652, 653, 654, 655, 656, 657, 658, 659, 660, 661] (by rfl)
set_option maxRecDepth 20000 in
theorem gP16 : ∀ w ∈ gG16, w ∈ lw_tbl := gsub _ [115, 118, 662, 131, 137, 142, 145, 147, 439, 440, 441, 442, 443, 445, 4, 446, 451, 453, 5, 454, 140, 455, 457, 6] (by rfl)
set_option maxRecDepth 20000 in
theorem gP17 : ∀ w ∈ gG17, w ∈ lw_tbl := gsub _ [458, 459, 461, 7, 462, 64, 463, 472, 473, 474, 475, 477, 478, 34, 479, 476, 480, 481, 483, 8, 484, 67, 71, 485] (by rfl)
set_option maxRecDepth 20000 in
theorem gP18 : ∀ w ∈ gG18, w ∈ lw_tbl := gsub _ [487, 9, 488, 119, 489, 491, 10, 492, 493, 494, 495, 496, 497, 499, 11, 500, 501, 503, 12, 504, 505, 514, 516, 13] (by rfl)
set_option maxRecDepth 20000 in
theorem gP19 : ∀ w ∈ gG19, w ∈ lw_tbl := gsub _ [517, 117, 518, 520, 14, 521, 522, 524, 15, 525, 526, 527, 528, 529, 530, 531, 532, 533, 534, 535, 537, 16, 538, 539] (by rfl)
set_option maxRecDepth 20000 in
theorem gP20 : ∀ w ∈ gG20, w ∈ lw_tbl := gsub _ [540, 541, 542, 543, 545, 17, 546, 93, 547, 549, 18, 550, 551, 553, 19, 554, 637, 638, 639, 640, 435, 436, 437, 438] (by rfl)
set_option maxRecDepth 20000 in
theorem gP21 : ∀ w ∈ gG21, w ∈ lw_tbl := gsub _ [560, 610, 586, 632, 628, 624] (by rfl)
set_option maxRecDepth 20000 in
theorem gQ0 : ∀ w ∈ wsX00, w ∈ lw_tbl := by decide +kernel
set_option maxRecDepth 20000 in
theorem gQ1 : ∀ w ∈ wsX10, w ∈ lw_tbl := by decide +kernel
set_option maxRecDepth 20000 in
theorem gQ2 : ∀ w ∈ wsX20, w ∈ lw_tbl := by decide +kernel
set_option maxRecDepth 20000 in
theorem gQ3 : ∀ w ∈ wsX30, w ∈ lw_tbl := by decide +kernel
set_option maxRecDepth 20000 in
theorem gQ4 : ∀ w ∈ wsX40, w ∈ lw_tbl := by decide +kernel
theorem gG_in : ∀ w ∈ gG, w ∈ lw_tbl := fun w h => (List.mem_append.mp h).elim (fun h => (List.mem_append.mp h).elim (fun h => gP1 w h) (fun h => (List.mem_append.mp h).elim (fun h => gP2 w h) (fun h => (List.mem_append.mp h).elim (fun h => gP3 w h) (fun h => (List.mem_append.mp h).elim (fun h => gP4 w h) (fun h => (List.mem_append.mp h).elim (fun h => gP5 w h) (fun h => (List.mem_append.mp h).elim (fun h => gP6 w h) (fun h => (List.mem_append.mp h).elim (fun h => gP7 w h) (fun h => (List.mem_append.mp h).elim (fun h => gP8 w h) (fun h => (List.mem_append.mp h).elim (fun h => gP9 w h) (fun h => (List.mem_append.mp h).elim (fun h => gP10 w h) (fun h => (List.mem_append.mp h).elim (fun h => gP11 w h) (fun h => (List.mem_append.mp h).elim (fun h => gP12 w h) (fun h => (List.mem_append.mp h).elim (fun h => gP13 w h) (fun h => (List.mem_append.mp h).elim (fun h => gP14 w h) (fun h => (List.mem_append.mp h).elim (fun h => gP15 w h) (fun h => (List.mem_append.mp h).elim (fun h => gP16 w h) (fun h => (List.mem_append.mp h).elim (fun h => gP17 w h) (fun h => (List.mem_append.mp h).elim (fun h => gP18 w h) (fun h => (List.mem_append.mp h).elim (fun h => gP19 w h) (fun h => (List.mem_append.mp h).elim (fun h => gP20 w h) (fun h => gP21 w h))))))))))))))))))))) (fun h => (List.mem_append.mp h).elim (fun h => gQ4 w h) (fun h => (List.mem_append.mp h).elim (fun h => gQ1 w h) (fun h => (List.mem_append.mp h).elim (fun h => gQ0 w h) (fun h => (List.mem_append.mp h).elim (fun h => gQ2 w h) (fun h => gQ3 w h)))))
end
section
-- what each instruction is, out of the printed names
theorem dX0_init_0 : decode cX0_init 0 = .ok (.aload_n 0, 1) := by decide +kernel
theorem dX0_init_1 : decode cX0_init 1 = .ok (.invokespecial 3, 3) := by decide +kernel
theorem dX0_init_4 : decode cX0_init 4 = .ok (.aload_n 0, 1) := by decide +kernel
theorem dX0_init_5 : decode cX0_init 5 = .ok (.iconst (-1), 1) := by decide +kernel
theorem dX0_init_6 : decode cX0_init 6 = .ok (.putfield 9, 3) := by decide +kernel
theorem dX0_init_9 : decode cX0_init 9 = .ok (.aload_n 0, 1) := by decide +kernel
theorem dX0_init_10 : decode cX0_init 10 = .ok (.iconst (-1), 1) := by decide +kernel
theorem dX0_init_11 : decode cX0_init 11 = .ok (.putfield 15, 3) := by decide +kernel
theorem dX0_init_14 : decode cX0_init 14 = .ok (.return_, 1) := by decide +kernel
theorem dX0_takeFrom_0 : decode cX0_takeFrom 0 = .ok (.aload_n 0, 1) := by decide +kernel
theorem dX0_takeFrom_1 : decode cX0_takeFrom 1 = .ok (.aload_n 1, 1) := by decide +kernel
theorem dX0_takeFrom_2 : decode cX0_takeFrom 2 = .ok (.getfield 18, 3) := by decide +kernel
theorem dX0_takeFrom_5 : decode cX0_takeFrom 5 = .ok (.putfield 18, 3) := by decide +kernel
theorem dX0_takeFrom_8 : decode cX0_takeFrom 8 = .ok (.aload_n 0, 1) := by decide +kernel
theorem dX0_takeFrom_9 : decode cX0_takeFrom 9 = .ok (.aload_n 1, 1) := by decide +kernel
theorem dX0_takeFrom_10 : decode cX0_takeFrom 10 = .ok (.getfield 9, 3) := by decide +kernel
theorem dX0_takeFrom_13 : decode cX0_takeFrom 13 = .ok (.putfield 9, 3) := by decide +kernel
theorem dX0_takeFrom_16 : decode cX0_takeFrom 16 = .ok (.aload_n 0, 1) := by decide +kernel
theorem dX0_takeFrom_17 : decode cX0_takeFrom 17 = .ok (.aload_n 1, 1) := by decide +kernel
theorem dX0_takeFrom_18 : decode cX0_takeFrom 18 = .ok (.getfield 15, 3) := by decide +kernel
theorem dX0_takeFrom_21 : decode cX0_takeFrom 21 = .ok (.putfield 15, 3) := by decide +kernel
theorem dX0_takeFrom_24 : decode cX0_takeFrom 24 = .ok (.aload_n 0, 1) := by decide +kernel
theorem dX0_takeFrom_25 : decode cX0_takeFrom 25 = .ok (.aload_n 1, 1) := by decide +kernel
theorem dX0_takeFrom_26 : decode cX0_takeFrom 26 = .ok (.getfield 21, 3) := by decide +kernel
theorem dX0_takeFrom_29 : decode cX0_takeFrom 29 = .ok (.putfield 21, 3) := by decide +kernel
theorem dX0_takeFrom_32 : decode cX0_takeFrom 32 = .ok (.return_, 1) := by decide +kernel
theorem dX1_init_0 : decode cX1_init 0 = .ok (.aload_n 0, 1) := by decide +kernel
theorem dX1_init_1 : decode cX1_init 1 = .ok (.invokespecial 3, 3) := by decide +kernel
theorem dX1_init_4 : decode cX1_init 4 = .ok (.aload_n 0, 1) := by decide +kernel
theorem dX1_init_5 : decode cX1_init 5 = .ok (.bipush 6, 2) := by decide +kernel
theorem dX1_init_7 : decode cX1_init 7 = .ok (.newarray .int, 2) := by decide +kernel
theorem dX1_init_9 : decode cX1_init 9 = .ok (.putfield 9, 3) := by decide +kernel
theorem dX1_init_12 : decode cX1_init 12 = .ok (.aload_n 0, 1) := by decide +kernel
theorem dX1_init_13 : decode cX1_init 13 = .ok (.bipush 16, 2) := by decide +kernel
theorem dX1_init_15 : decode cX1_init 15 = .ok (.anewarray 15, 3) := by decide +kernel
theorem dX1_init_18 : decode cX1_init 18 = .ok (.putfield 17, 3) := by decide +kernel
theorem dX1_init_21 : decode cX1_init 21 = .ok (.aload_n 0, 1) := by decide +kernel
theorem dX1_init_22 : decode cX1_init 22 = .ok (.bipush 16, 2) := by decide +kernel
theorem dX1_init_24 : decode cX1_init 24 = .ok (.anewarray 21, 3) := by decide +kernel
theorem dX1_init_27 : decode cX1_init 27 = .ok (.putfield 23, 3) := by decide +kernel
theorem dX1_init_30 : decode cX1_init 30 = .ok (.aload_n 0, 1) := by decide +kernel
theorem dX1_init_31 : decode cX1_init 31 = .ok (.bipush 8, 2) := by decide +kernel
theorem dX1_init_33 : decode cX1_init 33 = .ok (.anewarray 27, 3) := by decide +kernel
theorem dX1_init_36 : decode cX1_init 36 = .ok (.putfield 29, 3) := by decide +kernel
theorem dX1_init_39 : decode cX1_init 39 = .ok (.aload_n 0, 1) := by decide +kernel
theorem dX1_init_40 : decode cX1_init 40 = .ok (.iconst 2, 1) := by decide +kernel
theorem dX1_init_41 : decode cX1_init 41 = .ok (.putfield 33, 3) := by decide +kernel
theorem dX1_init_44 : decode cX1_init 44 = .ok (.iconst 0, 1) := by decide +kernel
theorem dX1_init_45 : decode cX1_init 45 = .ok (.istore_n 1, 1) := by decide +kernel
theorem dX1_init_46 : decode cX1_init 46 = .ok (.iload_n 1, 1) := by decide +kernel
theorem dX1_init_47 : decode cX1_init 47 = .ok (.bipush 6, 2) := by decide +kernel
theorem dX1_init_49 : decode cX1_init 49 = .ok (.if_icmp .ge 16, 3) := by decide +kernel
theorem dX1_init_52 : decode cX1_init 52 = .ok (.aload_n 0, 1) := by decide +kernel
theorem dX1_init_53 : decode cX1_init 53 = .ok (.getfield 9, 3) := by decide +kernel
theorem dX1_init_56 : decode cX1_init 56 = .ok (.iload_n 1, 1) := by decide +kernel
theorem dX1_init_57 : decode cX1_init 57 = .ok (.iconst 2, 1) := by decide +kernel
theorem dX1_init_58 : decode cX1_init 58 = .ok (.iastore, 1) := by decide +kernel
theorem dX1_init_59 : decode cX1_init 59 = .ok (.iinc 1 1, 3) := by decide +kernel
theorem dX1_init_62 : decode cX1_init 62 = .ok (.goto (-16), 3) := by decide +kernel
theorem dX1_init_65 : decode cX1_init 65 = .ok (.iconst 0, 1) := by decide +kernel
theorem dX1_init_66 : decode cX1_init 66 = .ok (.istore_n 1, 1) := by decide +kernel
theorem dX1_init_67 : decode cX1_init 67 = .ok (.iload_n 1, 1) := by decide +kernel
theorem dX1_init_68 : decode cX1_init 68 = .ok (.bipush 16, 2) := by decide +kernel
theorem dX1_init_70 : decode cX1_init 70 = .ok (.if_icmp .ge 22, 3) := by decide +kernel
theorem dX1_init_73 : decode cX1_init 73 = .ok (.aload_n 0, 1) := by decide +kernel
theorem dX1_init_74 : decode cX1_init 74 = .ok (.getfield 17, 3) := by decide +kernel
theorem dX1_init_77 : decode cX1_init 77 = .ok (.iload_n 1, 1) := by decide +kernel
theorem dX1_init_78 : decode cX1_init 78 = .ok (.new 15, 3) := by decide +kernel
theorem dX1_init_81 : decode cX1_init 81 = .ok (.dup, 1) := by decide +kernel
theorem dX1_init_82 : decode cX1_init 82 = .ok (.invokespecial 37, 3) := by decide +kernel
theorem dX1_init_85 : decode cX1_init 85 = .ok (.aastore, 1) := by decide +kernel
theorem dX1_init_86 : decode cX1_init 86 = .ok (.iinc 1 1, 3) := by decide +kernel
theorem dX1_init_89 : decode cX1_init 89 = .ok (.goto (-22), 3) := by decide +kernel
theorem dX1_init_92 : decode cX1_init 92 = .ok (.iconst 0, 1) := by decide +kernel
theorem dX1_init_93 : decode cX1_init 93 = .ok (.istore_n 1, 1) := by decide +kernel
theorem dX1_init_94 : decode cX1_init 94 = .ok (.iload_n 1, 1) := by decide +kernel
theorem dX1_init_95 : decode cX1_init 95 = .ok (.bipush 16, 2) := by decide +kernel
theorem dX1_init_97 : decode cX1_init 97 = .ok (.if_icmp .ge 22, 3) := by decide +kernel
theorem dX1_init_100 : decode cX1_init 100 = .ok (.aload_n 0, 1) := by decide +kernel
theorem dX1_init_101 : decode cX1_init 101 = .ok (.getfield 23, 3) := by decide +kernel
theorem dX1_init_104 : decode cX1_init 104 = .ok (.iload_n 1, 1) := by decide +kernel
theorem dX1_init_105 : decode cX1_init 105 = .ok (.new 21, 3) := by decide +kernel
theorem dX1_init_108 : decode cX1_init 108 = .ok (.dup, 1) := by decide +kernel
theorem dX1_init_109 : decode cX1_init 109 = .ok (.invokespecial 38, 3) := by decide +kernel
theorem dX1_init_112 : decode cX1_init 112 = .ok (.aastore, 1) := by decide +kernel
theorem dX1_init_113 : decode cX1_init 113 = .ok (.iinc 1 1, 3) := by decide +kernel
theorem dX1_init_116 : decode cX1_init 116 = .ok (.goto (-22), 3) := by decide +kernel
theorem dX1_init_119 : decode cX1_init 119 = .ok (.iconst 0, 1) := by decide +kernel
theorem dX1_init_120 : decode cX1_init 120 = .ok (.istore_n 1, 1) := by decide +kernel
theorem dX1_init_121 : decode cX1_init 121 = .ok (.iload_n 1, 1) := by decide +kernel
theorem dX1_init_122 : decode cX1_init 122 = .ok (.bipush 8, 2) := by decide +kernel
theorem dX1_init_124 : decode cX1_init 124 = .ok (.if_icmp .ge 22, 3) := by decide +kernel
theorem dX1_init_127 : decode cX1_init 127 = .ok (.aload_n 0, 1) := by decide +kernel
theorem dX1_init_128 : decode cX1_init 128 = .ok (.getfield 29, 3) := by decide +kernel
theorem dX1_init_131 : decode cX1_init 131 = .ok (.iload_n 1, 1) := by decide +kernel
theorem dX1_init_132 : decode cX1_init 132 = .ok (.new 27, 3) := by decide +kernel
theorem dX1_init_135 : decode cX1_init 135 = .ok (.dup, 1) := by decide +kernel
theorem dX1_init_136 : decode cX1_init 136 = .ok (.invokespecial 39, 3) := by decide +kernel
theorem dX1_init_139 : decode cX1_init 139 = .ok (.aastore, 1) := by decide +kernel
theorem dX1_init_140 : decode cX1_init 140 = .ok (.iinc 1 1, 3) := by decide +kernel
theorem dX1_init_143 : decode cX1_init 143 = .ok (.goto (-22), 3) := by decide +kernel
theorem dX1_init_146 : decode cX1_init 146 = .ok (.return_, 1) := by decide +kernel
theorem dX1_takeFrom_0 : decode cX1_takeFrom 0 = .ok (.aload_n 1, 1) := by decide +kernel
theorem dX1_takeFrom_1 : decode cX1_takeFrom 1 = .ok (.getfield 9, 3) := by decide +kernel
theorem dX1_takeFrom_4 : decode cX1_takeFrom 4 = .ok (.iconst 0, 1) := by decide +kernel
theorem dX1_takeFrom_5 : decode cX1_takeFrom 5 = .ok (.aload_n 0, 1) := by decide +kernel
theorem dX1_takeFrom_6 : decode cX1_takeFrom 6 = .ok (.getfield 9, 3) := by decide +kernel
theorem dX1_takeFrom_9 : decode cX1_takeFrom 9 = .ok (.iconst 0, 1) := by decide +kernel
theorem dX1_takeFrom_10 : decode cX1_takeFrom 10 = .ok (.bipush 6, 2) := by decide +kernel
theorem dX1_takeFrom_12 : decode cX1_takeFrom 12 = .ok (.invokestatic 40, 3) := by decide +kernel
theorem dX1_takeFrom_15 : decode cX1_takeFrom 15 = .ok (.aload_n 0, 1) := by decide +kernel
theorem dX1_takeFrom_16 : decode cX1_takeFrom 16 = .ok (.aload_n 1, 1) := by decide +kernel
theorem dX1_takeFrom_17 : decode cX1_takeFrom 17 = .ok (.getfield 46, 3) := by decide +kernel
theorem dX1_takeFrom_20 : decode cX1_takeFrom 20 = .ok (.putfield 46, 3) := by decide +kernel
theorem dX1_takeFrom_23 : decode cX1_takeFrom 23 = .ok (.iconst 0, 1) := by decide +kernel
theorem dX1_takeFrom_24 : decode cX1_takeFrom 24 = .ok (.istore_n 2, 1) := by decide +kernel
theorem dX1_takeFrom_25 : decode cX1_takeFrom 25 = .ok (.iload_n 2, 1) := by decide +kernel
theorem dX1_takeFrom_26 : decode cX1_takeFrom 26 = .ok (.aload_n 0, 1) := by decide +kernel
theorem dX1_takeFrom_27 : decode cX1_takeFrom 27 = .ok (.getfield 46, 3) := by decide +kernel
theorem dX1_takeFrom_30 : decode cX1_takeFrom 30 = .ok (.if_icmp .ge 24, 3) := by decide +kernel
theorem dX1_takeFrom_33 : decode cX1_takeFrom 33 = .ok (.aload_n 0, 1) := by decide +kernel
theorem dX1_takeFrom_34 : decode cX1_takeFrom 34 = .ok (.getfield 17, 3) := by decide +kernel
theorem dX1_takeFrom_37 : decode cX1_takeFrom 37 = .ok (.iload_n 2, 1) := by decide +kernel
theorem dX1_takeFrom_38 : decode cX1_takeFrom 38 = .ok (.aaload, 1) := by decide +kernel
theorem dX1_takeFrom_39 : decode cX1_takeFrom 39 = .ok (.aload_n 1, 1) := by decide +kernel
theorem dX1_takeFrom_40 : decode cX1_takeFrom 40 = .ok (.getfield 17, 3) := by decide +kernel
theorem dX1_takeFrom_43 : decode cX1_takeFrom 43 = .ok (.iload_n 2, 1) := by decide +kernel
theorem dX1_takeFrom_44 : decode cX1_takeFrom 44 = .ok (.aaload, 1) := by decide +kernel
theorem dX1_takeFrom_45 : decode cX1_takeFrom 45 = .ok (.invokevirtual 49, 3) := by decide +kernel
theorem dX1_takeFrom_48 : decode cX1_takeFrom 48 = .ok (.iinc 2 1, 3) := by decide +kernel
theorem dX1_takeFrom_51 : decode cX1_takeFrom 51 = .ok (.goto (-26), 3) := by decide +kernel
theorem dX1_takeFrom_54 : decode cX1_takeFrom 54 = .ok (.aload_n 0, 1) := by decide +kernel
theorem dX1_takeFrom_55 : decode cX1_takeFrom 55 = .ok (.aload_n 1, 1) := by decide +kernel
theorem dX1_takeFrom_56 : decode cX1_takeFrom 56 = .ok (.getfield 53, 3) := by decide +kernel
theorem dX1_takeFrom_59 : decode cX1_takeFrom 59 = .ok (.putfield 53, 3) := by decide +kernel
theorem dX1_takeFrom_62 : decode cX1_takeFrom 62 = .ok (.iconst 0, 1) := by decide +kernel
theorem dX1_takeFrom_63 : decode cX1_takeFrom 63 = .ok (.istore_n 2, 1) := by decide +kernel
theorem dX1_takeFrom_64 : decode cX1_takeFrom 64 = .ok (.iload_n 2, 1) := by decide +kernel
theorem dX1_takeFrom_65 : decode cX1_takeFrom 65 = .ok (.aload_n 0, 1) := by decide +kernel
theorem dX1_takeFrom_66 : decode cX1_takeFrom 66 = .ok (.getfield 53, 3) := by decide +kernel
theorem dX1_takeFrom_69 : decode cX1_takeFrom 69 = .ok (.if_icmp .ge 24, 3) := by decide +kernel
theorem dX1_takeFrom_72 : decode cX1_takeFrom 72 = .ok (.aload_n 0, 1) := by decide +kernel
theorem dX1_takeFrom_73 : decode cX1_takeFrom 73 = .ok (.getfield 23, 3) := by decide +kernel
theorem dX1_takeFrom_76 : decode cX1_takeFrom 76 = .ok (.iload_n 2, 1) := by decide +kernel
theorem dX1_takeFrom_77 : decode cX1_takeFrom 77 = .ok (.aaload, 1) := by decide +kernel
theorem dX1_takeFrom_78 : decode cX1_takeFrom 78 = .ok (.aload_n 1, 1) := by decide +kernel
theorem dX1_takeFrom_79 : decode cX1_takeFrom 79 = .ok (.getfield 23, 3) := by decide +kernel
theorem dX1_takeFrom_82 : decode cX1_takeFrom 82 = .ok (.iload_n 2, 1) := by decide +kernel
theorem dX1_takeFrom_83 : decode cX1_takeFrom 83 = .ok (.aaload, 1) := by decide +kernel
theorem dX1_takeFrom_84 : decode cX1_takeFrom 84 = .ok (.invokevirtual 56, 3) := by decide +kernel
theorem dX1_takeFrom_87 : decode cX1_takeFrom 87 = .ok (.iinc 2 1, 3) := by decide +kernel
theorem dX1_takeFrom_90 : decode cX1_takeFrom 90 = .ok (.goto (-26), 3) := by decide +kernel
theorem dX1_takeFrom_93 : decode cX1_takeFrom 93 = .ok (.aload_n 0, 1) := by decide +kernel
theorem dX1_takeFrom_94 : decode cX1_takeFrom 94 = .ok (.aload_n 1, 1) := by decide +kernel
theorem dX1_takeFrom_95 : decode cX1_takeFrom 95 = .ok (.getfield 59, 3) := by decide +kernel
theorem dX1_takeFrom_98 : decode cX1_takeFrom 98 = .ok (.putfield 59, 3) := by decide +kernel
theorem dX1_takeFrom_101 : decode cX1_takeFrom 101 = .ok (.iconst 0, 1) := by decide +kernel
theorem dX1_takeFrom_102 : decode cX1_takeFrom 102 = .ok (.istore_n 2, 1) := by decide +kernel
theorem dX1_takeFrom_103 : decode cX1_takeFrom 103 = .ok (.iload_n 2, 1) := by decide +kernel
theorem dX1_takeFrom_104 : decode cX1_takeFrom 104 = .ok (.aload_n 0, 1) := by decide +kernel
theorem dX1_takeFrom_105 : decode cX1_takeFrom 105 = .ok (.getfield 59, 3) := by decide +kernel
theorem dX1_takeFrom_108 : decode cX1_takeFrom 108 = .ok (.if_icmp .ge 24, 3) := by decide +kernel
theorem dX1_takeFrom_111 : decode cX1_takeFrom 111 = .ok (.aload_n 0, 1) := by decide +kernel
theorem dX1_takeFrom_112 : decode cX1_takeFrom 112 = .ok (.getfield 29, 3) := by decide +kernel
theorem dX1_takeFrom_115 : decode cX1_takeFrom 115 = .ok (.iload_n 2, 1) := by decide +kernel
theorem dX1_takeFrom_116 : decode cX1_takeFrom 116 = .ok (.aaload, 1) := by decide +kernel
theorem dX1_takeFrom_117 : decode cX1_takeFrom 117 = .ok (.aload_n 1, 1) := by decide +kernel
theorem dX1_takeFrom_118 : decode cX1_takeFrom 118 = .ok (.getfield 29, 3) := by decide +kernel
theorem dX1_takeFrom_121 : decode cX1_takeFrom 121 = .ok (.iload_n 2, 1) := by decide +kernel
theorem dX1_takeFrom_122 : decode cX1_takeFrom 122 = .ok (.aaload, 1) := by decide +kernel
theorem dX1_takeFrom_123 : decode cX1_takeFrom 123 = .ok (.invokevirtual 62, 3) := by decide +kernel
theorem dX1_takeFrom_126 : decode cX1_takeFrom 126 = .ok (.iinc 2 1, 3) := by decide +kernel
theorem dX1_takeFrom_129 : decode cX1_takeFrom 129 = .ok (.goto (-26), 3) := by decide +kernel
theorem dX1_takeFrom_132 : decode cX1_takeFrom 132 = .ok (.aload_n 0, 1) := by decide +kernel
theorem dX1_takeFrom_133 : decode cX1_takeFrom 133 = .ok (.aload_n 1, 1) := by decide +kernel
theorem dX1_takeFrom_134 : decode cX1_takeFrom 134 = .ok (.getfield 65, 3) := by decide +kernel
theorem dX1_takeFrom_137 : decode cX1_takeFrom 137 = .ok (.putfield 65, 3) := by decide +kernel
theorem dX1_takeFrom_140 : decode cX1_takeFrom 140 = .ok (.aload_n 0, 1) := by decide +kernel
theorem dX1_takeFrom_141 : decode cX1_takeFrom 141 = .ok (.aload_n 1, 1) := by decide +kernel
theorem dX1_takeFrom_142 : decode cX1_takeFrom 142 = .ok (.getfield 33, 3) := by decide +kernel
theorem dX1_takeFrom_145 : decode cX1_takeFrom 145 = .ok (.putfield 33, 3) := by decide +kernel
theorem dX1_takeFrom_148 : decode cX1_takeFrom 148 = .ok (.aload_n 0, 1) := by decide +kernel
theorem dX1_takeFrom_149 : decode cX1_takeFrom 149 = .ok (.aload_n 1, 1) := by decide +kernel
theorem dX1_takeFrom_150 : decode cX1_takeFrom 150 = .ok (.getfield 68, 3) := by decide +kernel
theorem dX1_takeFrom_153 : decode cX1_takeFrom 153 = .ok (.putfield 68, 3) := by decide +kernel
theorem dX1_takeFrom_156 : decode cX1_takeFrom 156 = .ok (.return_, 1) := by decide +kernel
theorem dX1_passTicks_0 : decode cX1_passTicks 0 = .ok (.iconst 0, 1) := by decide +kernel
theorem dX1_passTicks_1 : decode cX1_passTicks 1 = .ok (.istore_n 2, 1) := by decide +kernel
theorem dX1_passTicks_2 : decode cX1_passTicks 2 = .ok (.iload_n 2, 1) := by decide +kernel
theorem dX1_passTicks_3 : decode cX1_passTicks 3 = .ok (.iload_n 1, 1) := by decide +kernel
theorem dX1_passTicks_4 : decode cX1_passTicks 4 = .ok (.if_icmp .ge 60, 3) := by decide +kernel
theorem dX1_passTicks_7 : decode cX1_passTicks 7 = .ok (.aload_n 0, 1) := by decide +kernel
theorem dX1_passTicks_8 : decode cX1_passTicks 8 = .ok (.dup, 1) := by decide +kernel
theorem dX1_passTicks_9 : decode cX1_passTicks 9 = .ok (.getfield 68, 3) := by decide +kernel
theorem dX1_passTicks_12 : decode cX1_passTicks 12 = .ok (.iconst 1, 1) := by decide +kernel
theorem dX1_passTicks_13 : decode cX1_passTicks 13 = .ok (.iadd, 1) := by decide +kernel
theorem dX1_passTicks_14 : decode cX1_passTicks 14 = .ok (.putfield 68, 3) := by decide +kernel
theorem dX1_passTicks_17 : decode cX1_passTicks 17 = .ok (.aload_n 0, 1) := by decide +kernel
theorem dX1_passTicks_18 : decode cX1_passTicks 18 = .ok (.invokevirtual 71, 3) := by decide +kernel
theorem dX1_passTicks_21 : decode cX1_passTicks 21 = .ok (.iconst 0, 1) := by decide +kernel
theorem dX1_passTicks_22 : decode cX1_passTicks 22 = .ok (.istore_n 3, 1) := by decide +kernel
theorem dX1_passTicks_23 : decode cX1_passTicks 23 = .ok (.iload_n 3, 1) := by decide +kernel
theorem dX1_passTicks_24 : decode cX1_passTicks 24 = .ok (.aload_n 0, 1) := by decide +kernel
theorem dX1_passTicks_25 : decode cX1_passTicks 25 = .ok (.getfield 59, 3) := by decide +kernel
theorem dX1_passTicks_28 : decode cX1_passTicks 28 = .ok (.if_icmp .ge 26, 3) := by decide +kernel
theorem dX1_passTicks_31 : decode cX1_passTicks 31 = .ok (.aload_n 0, 1) := by decide +kernel
theorem dX1_passTicks_32 : decode cX1_passTicks 32 = .ok (.getfield 29, 3) := by decide +kernel
theorem dX1_passTicks_35 : decode cX1_passTicks 35 = .ok (.iload_n 3, 1) := by decide +kernel
theorem dX1_passTicks_36 : decode cX1_passTicks 36 = .ok (.aaload, 1) := by decide +kernel
theorem dX1_passTicks_37 : decode cX1_passTicks 37 = .ok (.invokevirtual 74, 3) := by decide +kernel
theorem dX1_passTicks_40 : decode cX1_passTicks 40 = .ok (.ifCond .eq 8, 3) := by decide +kernel
theorem dX1_passTicks_43 : decode cX1_passTicks 43 = .ok (.aload_n 0, 1) := by decide +kernel
theorem dX1_passTicks_44 : decode cX1_passTicks 44 = .ok (.iload_n 3, 1) := by decide +kernel
theorem dX1_passTicks_45 : decode cX1_passTicks 45 = .ok (.invokevirtual 78, 3) := by decide +kernel
theorem dX1_passTicks_48 : decode cX1_passTicks 48 = .ok (.iinc 3 1, 3) := by decide +kernel
theorem dX1_passTicks_51 : decode cX1_passTicks 51 = .ok (.goto (-28), 3) := by decide +kernel
theorem dX1_passTicks_54 : decode cX1_passTicks 54 = .ok (.aload_n 0, 1) := by decide +kernel
theorem dX1_passTicks_55 : decode cX1_passTicks 55 = .ok (.invokevirtual 82, 3) := by decide +kernel
theorem dX1_passTicks_58 : decode cX1_passTicks 58 = .ok (.iinc 2 1, 3) := by decide +kernel
theorem dX1_passTicks_61 : decode cX1_passTicks 61 = .ok (.goto (-59), 3) := by decide +kernel
theorem dX1_passTicks_64 : decode cX1_passTicks 64 = .ok (.return_, 1) := by decide +kernel
theorem dX1_forgetWhoWaits_0 : decode cX1_forgetWhoWaits 0 = .ok (.iconst 0, 1) := by decide +kernel
theorem dX1_forgetWhoWaits_1 : decode cX1_forgetWhoWaits 1 = .ok (.istore_n 1, 1) := by decide +kernel
theorem dX1_forgetWhoWaits_2 : decode cX1_forgetWhoWaits 2 = .ok (.iload_n 1, 1) := by decide +kernel
theorem dX1_forgetWhoWaits_3 : decode cX1_forgetWhoWaits 3 = .ok (.aload_n 0, 1) := by decide +kernel
theorem dX1_forgetWhoWaits_4 : decode cX1_forgetWhoWaits 4 = .ok (.getfield 59, 3) := by decide +kernel
theorem dX1_forgetWhoWaits_7 : decode cX1_forgetWhoWaits 7 = .ok (.if_icmp .ge 19, 3) := by decide +kernel
theorem dX1_forgetWhoWaits_10 : decode cX1_forgetWhoWaits 10 = .ok (.aload_n 0, 1) := by decide +kernel
theorem dX1_forgetWhoWaits_11 : decode cX1_forgetWhoWaits 11 = .ok (.getfield 29, 3) := by decide +kernel
theorem dX1_forgetWhoWaits_14 : decode cX1_forgetWhoWaits 14 = .ok (.iload_n 1, 1) := by decide +kernel
theorem dX1_forgetWhoWaits_15 : decode cX1_forgetWhoWaits 15 = .ok (.aaload, 1) := by decide +kernel
theorem dX1_forgetWhoWaits_16 : decode cX1_forgetWhoWaits 16 = .ok (.iconst (-1), 1) := by decide +kernel
theorem dX1_forgetWhoWaits_17 : decode cX1_forgetWhoWaits 17 = .ok (.putfield 85, 3) := by decide +kernel
theorem dX1_forgetWhoWaits_20 : decode cX1_forgetWhoWaits 20 = .ok (.iinc 1 1, 3) := by decide +kernel
theorem dX1_forgetWhoWaits_23 : decode cX1_forgetWhoWaits 23 = .ok (.goto (-21), 3) := by decide +kernel
theorem dX1_forgetWhoWaits_26 : decode cX1_forgetWhoWaits 26 = .ok (.return_, 1) := by decide +kernel
theorem dX1_roll_0 : decode cX1_roll 0 = .ok (.aload_n 0, 1) := by decide +kernel
theorem dX1_roll_1 : decode cX1_roll 1 = .ok (.getfield 29, 3) := by decide +kernel
theorem dX1_roll_4 : decode cX1_roll 4 = .ok (.iload_n 1, 1) := by decide +kernel
theorem dX1_roll_5 : decode cX1_roll 5 = .ok (.aaload, 1) := by decide +kernel
theorem dX1_roll_6 : decode cX1_roll 6 = .ok (.astore_n 2, 1) := by decide +kernel
theorem dX1_roll_7 : decode cX1_roll 7 = .ok (.aload_n 2, 1) := by decide +kernel
theorem dX1_roll_8 : decode cX1_roll 8 = .ok (.getfield 88, 3) := by decide +kernel
theorem dX1_roll_11 : decode cX1_roll 11 = .ok (.ifCond .le 13, 3) := by decide +kernel
theorem dX1_roll_14 : decode cX1_roll 14 = .ok (.aload_n 2, 1) := by decide +kernel
theorem dX1_roll_15 : decode cX1_roll 15 = .ok (.dup, 1) := by decide +kernel
theorem dX1_roll_16 : decode cX1_roll 16 = .ok (.getfield 88, 3) := by decide +kernel
theorem dX1_roll_19 : decode cX1_roll 19 = .ok (.iconst 1, 1) := by decide +kernel
theorem dX1_roll_20 : decode cX1_roll 20 = .ok (.isub, 1) := by decide +kernel
theorem dX1_roll_21 : decode cX1_roll 21 = .ok (.putfield 88, 3) := by decide +kernel
theorem dX1_roll_24 : decode cX1_roll 24 = .ok (.aload_n 2, 1) := by decide +kernel
theorem dX1_roll_25 : decode cX1_roll 25 = .ok (.getfield 88, 3) := by decide +kernel
theorem dX1_roll_28 : decode cX1_roll 28 = .ok (.ifCond .gt 21, 3) := by decide +kernel
theorem dX1_roll_31 : decode cX1_roll 31 = .ok (.aload_n 2, 1) := by decide +kernel
theorem dX1_roll_32 : decode cX1_roll 32 = .ok (.getfield 91, 3) := by decide +kernel
theorem dX1_roll_35 : decode cX1_roll 35 = .ok (.ifCond .lt 14, 3) := by decide +kernel
theorem dX1_roll_38 : decode cX1_roll 38 = .ok (.aload_n 2, 1) := by decide +kernel
theorem dX1_roll_39 : decode cX1_roll 39 = .ok (.getfield 91, 3) := by decide +kernel
theorem dX1_roll_42 : decode cX1_roll 42 = .ok (.aload_n 0, 1) := by decide +kernel
theorem dX1_roll_43 : decode cX1_roll 43 = .ok (.getfield 53, 3) := by decide +kernel
theorem dX1_roll_46 : decode cX1_roll 46 = .ok (.if_icmp .lt 4, 3) := by decide +kernel
theorem dX1_roll_49 : decode cX1_roll 49 = .ok (.return_, 1) := by decide +kernel
theorem dX1_roll_50 : decode cX1_roll 50 = .ok (.aload_n 0, 1) := by decide +kernel
theorem dX1_roll_51 : decode cX1_roll 51 = .ok (.getfield 23, 3) := by decide +kernel
theorem dX1_roll_54 : decode cX1_roll 54 = .ok (.aload_n 2, 1) := by decide +kernel
theorem dX1_roll_55 : decode cX1_roll 55 = .ok (.getfield 91, 3) := by decide +kernel
theorem dX1_roll_58 : decode cX1_roll 58 = .ok (.aaload, 1) := by decide +kernel
theorem dX1_roll_59 : decode cX1_roll 59 = .ok (.astore_n 3, 1) := by decide +kernel
theorem dX1_roll_60 : decode cX1_roll 60 = .ok (.aload_n 2, 1) := by decide +kernel
theorem dX1_roll_61 : decode cX1_roll 61 = .ok (.getfield 94, 3) := by decide +kernel
theorem dX1_roll_64 : decode cX1_roll 64 = .ok (.iconst 1, 1) := by decide +kernel
theorem dX1_roll_65 : decode cX1_roll 65 = .ok (.iadd, 1) := by decide +kernel
theorem dX1_roll_66 : decode cX1_roll 66 = .ok (.istore 4, 2) := by decide +kernel
theorem dX1_roll_68 : decode cX1_roll 68 = .ok (.iload 4, 2) := by decide +kernel
theorem dX1_roll_70 : decode cX1_roll 70 = .ok (.aload_n 3, 1) := by decide +kernel
theorem dX1_roll_71 : decode cX1_roll 71 = .ok (.getfield 97, 3) := by decide +kernel
theorem dX1_roll_74 : decode cX1_roll 74 = .ok (.if_icmp .lt 11, 3) := by decide +kernel
theorem dX1_roll_77 : decode cX1_roll 77 = .ok (.aload_n 0, 1) := by decide +kernel
theorem dX1_roll_78 : decode cX1_roll 78 = .ok (.aload_n 2, 1) := by decide +kernel
theorem dX1_roll_79 : decode cX1_roll 79 = .ok (.invokevirtual 100, 3) := by decide +kernel
theorem dX1_roll_82 : decode cX1_roll 82 = .ok (.goto 51, 3) := by decide +kernel
theorem dX1_roll_85 : decode cX1_roll 85 = .ok (.aload_n 0, 1) := by decide +kernel
theorem dX1_roll_86 : decode cX1_roll 86 = .ok (.aload_n 3, 1) := by decide +kernel
theorem dX1_roll_87 : decode cX1_roll 87 = .ok (.iload 4, 2) := by decide +kernel
theorem dX1_roll_89 : decode cX1_roll 89 = .ok (.invokevirtual 103, 3) := by decide +kernel
theorem dX1_roll_92 : decode cX1_roll 92 = .ok (.iload_n 1, 1) := by decide +kernel
theorem dX1_roll_93 : decode cX1_roll 93 = .ok (.invokevirtual 107, 3) := by decide +kernel
theorem dX1_roll_96 : decode cX1_roll 96 = .ok (.ifCond .eq 22, 3) := by decide +kernel
theorem dX1_roll_99 : decode cX1_roll 99 = .ok (.aload_n 0, 1) := by decide +kernel
theorem dX1_roll_100 : decode cX1_roll 100 = .ok (.aload_n 2, 1) := by decide +kernel
theorem dX1_roll_101 : decode cX1_roll 101 = .ok (.invokevirtual 111, 3) := by decide +kernel
theorem dX1_roll_104 : decode cX1_roll 104 = .ok (.aload_n 0, 1) := by decide +kernel
theorem dX1_roll_105 : decode cX1_roll 105 = .ok (.iload_n 1, 1) := by decide +kernel
theorem dX1_roll_106 : decode cX1_roll 106 = .ok (.aload_n 2, 1) := by decide +kernel
theorem dX1_roll_107 : decode cX1_roll 107 = .ok (.getfield 91, 3) := by decide +kernel
theorem dX1_roll_110 : decode cX1_roll 110 = .ok (.iload 4, 2) := by decide +kernel
theorem dX1_roll_112 : decode cX1_roll 112 = .ok (.invokevirtual 114, 3) := by decide +kernel
theorem dX1_roll_115 : decode cX1_roll 115 = .ok (.goto 18, 3) := by decide +kernel
theorem dX1_roll_118 : decode cX1_roll 118 = .ok (.aload_n 2, 1) := by decide +kernel
theorem dX1_roll_119 : decode cX1_roll 119 = .ok (.aload_n 0, 1) := by decide +kernel
theorem dX1_roll_120 : decode cX1_roll 120 = .ok (.aload_n 3, 1) := by decide +kernel
theorem dX1_roll_121 : decode cX1_roll 121 = .ok (.iload 4, 2) := by decide +kernel
theorem dX1_roll_123 : decode cX1_roll 123 = .ok (.invokevirtual 103, 3) := by decide +kernel
theorem dX1_roll_126 : decode cX1_roll 126 = .ok (.iload_n 1, 1) := by decide +kernel
theorem dX1_roll_127 : decode cX1_roll 127 = .ok (.invokevirtual 118, 3) := by decide +kernel
theorem dX1_roll_130 : decode cX1_roll 130 = .ok (.invokevirtual 122, 3) := by decide +kernel
theorem dX1_roll_133 : decode cX1_roll 133 = .ok (.return_, 1) := by decide +kernel
theorem dX1_comeToStation_0 : decode cX1_comeToStation 0 = .ok (.aload_n 0, 1) := by decide +kernel
theorem dX1_comeToStation_1 : decode cX1_comeToStation 1 = .ok (.aload_n 1, 1) := by decide +kernel
theorem dX1_comeToStation_2 : decode cX1_comeToStation 2 = .ok (.invokevirtual 111, 3) := by decide +kernel
theorem dX1_comeToStation_5 : decode cX1_comeToStation 5 = .ok (.aload_n 1, 1) := by decide +kernel
theorem dX1_comeToStation_6 : decode cX1_comeToStation 6 = .ok (.iconst (-1), 1) := by decide +kernel
theorem dX1_comeToStation_7 : decode cX1_comeToStation 7 = .ok (.putfield 91, 3) := by decide +kernel
theorem dX1_comeToStation_10 : decode cX1_comeToStation 10 = .ok (.aload_n 1, 1) := by decide +kernel
theorem dX1_comeToStation_11 : decode cX1_comeToStation 11 = .ok (.dup, 1) := by decide +kernel
theorem dX1_comeToStation_12 : decode cX1_comeToStation 12 = .ok (.getfield 125, 3) := by decide +kernel
theorem dX1_comeToStation_15 : decode cX1_comeToStation 15 = .ok (.iconst 1, 1) := by decide +kernel
theorem dX1_comeToStation_16 : decode cX1_comeToStation 16 = .ok (.iadd, 1) := by decide +kernel
theorem dX1_comeToStation_17 : decode cX1_comeToStation 17 = .ok (.putfield 125, 3) := by decide +kernel
theorem dX1_comeToStation_20 : decode cX1_comeToStation 20 = .ok (.aload_n 1, 1) := by decide +kernel
theorem dX1_comeToStation_21 : decode cX1_comeToStation 21 = .ok (.aload_n 0, 1) := by decide +kernel
theorem dX1_comeToStation_22 : decode cX1_comeToStation 22 = .ok (.getfield 68, 3) := by decide +kernel
theorem dX1_comeToStation_25 : decode cX1_comeToStation 25 = .ok (.putfield 128, 3) := by decide +kernel
theorem dX1_comeToStation_28 : decode cX1_comeToStation 28 = .ok (.aload_n 1, 1) := by decide +kernel
theorem dX1_comeToStation_29 : decode cX1_comeToStation 29 = .ok (.invokevirtual 131, 3) := by decide +kernel
theorem dX1_comeToStation_32 : decode cX1_comeToStation 32 = .ok (.ifCond .eq 14, 3) := by decide +kernel
theorem dX1_comeToStation_35 : decode cX1_comeToStation 35 = .ok (.aload_n 1, 1) := by decide +kernel
theorem dX1_comeToStation_36 : decode cX1_comeToStation 36 = .ok (.aload_n 0, 1) := by decide +kernel
theorem dX1_comeToStation_37 : decode cX1_comeToStation 37 = .ok (.getfield 68, 3) := by decide +kernel
theorem dX1_comeToStation_40 : decode cX1_comeToStation 40 = .ok (.invokevirtual 134, 3) := by decide +kernel
theorem dX1_comeToStation_43 : decode cX1_comeToStation 43 = .ok (.goto 15, 3) := by decide +kernel
theorem dX1_comeToStation_46 : decode cX1_comeToStation 46 = .ok (.aload_n 1, 1) := by decide +kernel
theorem dX1_comeToStation_47 : decode cX1_comeToStation 47 = .ok (.aload_n 1, 1) := by decide +kernel
theorem dX1_comeToStation_48 : decode cX1_comeToStation 48 = .ok (.aload_n 1, 1) := by decide +kernel
theorem dX1_comeToStation_49 : decode cX1_comeToStation 49 = .ok (.getfield 125, 3) := by decide +kernel
theorem dX1_comeToStation_52 : decode cX1_comeToStation 52 = .ok (.invokevirtual 137, 3) := by decide +kernel
theorem dX1_comeToStation_55 : decode cX1_comeToStation 55 = .ok (.putfield 140, 3) := by decide +kernel
theorem dX1_comeToStation_58 : decode cX1_comeToStation 58 = .ok (.return_, 1) := by decide +kernel
theorem dX1_leaveBlock_0 : decode cX1_leaveBlock 0 = .ok (.aload_n 0, 1) := by decide +kernel
theorem dX1_leaveBlock_1 : decode cX1_leaveBlock 1 = .ok (.aload_n 1, 1) := by decide +kernel
theorem dX1_leaveBlock_2 : decode cX1_leaveBlock 2 = .ok (.invokevirtual 143, 3) := by decide +kernel
theorem dX1_leaveBlock_5 : decode cX1_leaveBlock 5 = .ok (.istore_n 2, 1) := by decide +kernel
theorem dX1_leaveBlock_6 : decode cX1_leaveBlock 6 = .ok (.iload_n 2, 1) := by decide +kernel
theorem dX1_leaveBlock_7 : decode cX1_leaveBlock 7 = .ok (.ifCond .lt 21, 3) := by decide +kernel
theorem dX1_leaveBlock_10 : decode cX1_leaveBlock 10 = .ok (.iload_n 2, 1) := by decide +kernel
theorem dX1_leaveBlock_11 : decode cX1_leaveBlock 11 = .ok (.aload_n 0, 1) := by decide +kernel
theorem dX1_leaveBlock_12 : decode cX1_leaveBlock 12 = .ok (.getfield 46, 3) := by decide +kernel
theorem dX1_leaveBlock_15 : decode cX1_leaveBlock 15 = .ok (.if_icmp .ge 13, 3) := by decide +kernel
theorem dX1_leaveBlock_18 : decode cX1_leaveBlock 18 = .ok (.aload_n 0, 1) := by decide +kernel
theorem dX1_leaveBlock_19 : decode cX1_leaveBlock 19 = .ok (.getfield 17, 3) := by decide +kernel
theorem dX1_leaveBlock_22 : decode cX1_leaveBlock 22 = .ok (.iload_n 2, 1) := by decide +kernel
theorem dX1_leaveBlock_23 : decode cX1_leaveBlock 23 = .ok (.aaload, 1) := by decide +kernel
theorem dX1_leaveBlock_24 : decode cX1_leaveBlock 24 = .ok (.iconst (-1), 1) := by decide +kernel
theorem dX1_leaveBlock_25 : decode cX1_leaveBlock 25 = .ok (.putfield 147, 3) := by decide +kernel
theorem dX1_leaveBlock_28 : decode cX1_leaveBlock 28 = .ok (.return_, 1) := by decide +kernel
theorem dX1_enter_0 : decode cX1_enter 0 = .ok (.aload_n 0, 1) := by decide +kernel
theorem dX1_enter_1 : decode cX1_enter 1 = .ok (.getfield 23, 3) := by decide +kernel
theorem dX1_enter_4 : decode cX1_enter 4 = .ok (.iload_n 2, 1) := by decide +kernel
theorem dX1_enter_5 : decode cX1_enter 5 = .ok (.aaload, 1) := by decide +kernel
theorem dX1_enter_6 : decode cX1_enter 6 = .ok (.iload_n 3, 1) := by decide +kernel
theorem dX1_enter_7 : decode cX1_enter 7 = .ok (.invokevirtual 103, 3) := by decide +kernel
theorem dX1_enter_10 : decode cX1_enter 10 = .ok (.istore 4, 2) := by decide +kernel
theorem dX1_enter_12 : decode cX1_enter 12 = .ok (.iload 4, 2) := by decide +kernel
theorem dX1_enter_14 : decode cX1_enter 14 = .ok (.ifCond .lt 12, 3) := by decide +kernel
theorem dX1_enter_17 : decode cX1_enter 17 = .ok (.iload 4, 2) := by decide +kernel
theorem dX1_enter_19 : decode cX1_enter 19 = .ok (.aload_n 0, 1) := by decide +kernel
theorem dX1_enter_20 : decode cX1_enter 20 = .ok (.getfield 46, 3) := by decide +kernel
theorem dX1_enter_23 : decode cX1_enter 23 = .ok (.if_icmp .lt 4, 3) := by decide +kernel
theorem dX1_enter_26 : decode cX1_enter 26 = .ok (.return_, 1) := by decide +kernel
theorem dX1_enter_27 : decode cX1_enter 27 = .ok (.aload_n 0, 1) := by decide +kernel
theorem dX1_enter_28 : decode cX1_enter 28 = .ok (.getfield 29, 3) := by decide +kernel
theorem dX1_enter_31 : decode cX1_enter 31 = .ok (.iload_n 1, 1) := by decide +kernel
theorem dX1_enter_32 : decode cX1_enter 32 = .ok (.aaload, 1) := by decide +kernel
theorem dX1_enter_33 : decode cX1_enter 33 = .ok (.astore 5, 2) := by decide +kernel
theorem dX1_enter_35 : decode cX1_enter 35 = .ok (.aload 5, 2) := by decide +kernel
theorem dX1_enter_37 : decode cX1_enter 37 = .ok (.iconst (-1), 1) := by decide +kernel
theorem dX1_enter_38 : decode cX1_enter 38 = .ok (.putfield 140, 3) := by decide +kernel
theorem dX1_enter_41 : decode cX1_enter 41 = .ok (.aload 5, 2) := by decide +kernel
theorem dX1_enter_43 : decode cX1_enter 43 = .ok (.iload_n 2, 1) := by decide +kernel
theorem dX1_enter_44 : decode cX1_enter 44 = .ok (.putfield 91, 3) := by decide +kernel
theorem dX1_enter_47 : decode cX1_enter 47 = .ok (.aload 5, 2) := by decide +kernel
theorem dX1_enter_49 : decode cX1_enter 49 = .ok (.iload_n 3, 1) := by decide +kernel
theorem dX1_enter_50 : decode cX1_enter 50 = .ok (.putfield 94, 3) := by decide +kernel
theorem dX1_enter_53 : decode cX1_enter 53 = .ok (.aload 5, 2) := by decide +kernel
theorem dX1_enter_55 : decode cX1_enter 55 = .ok (.aload_n 0, 1) := by decide +kernel
theorem dX1_enter_56 : decode cX1_enter 56 = .ok (.getfield 17, 3) := by decide +kernel
theorem dX1_enter_59 : decode cX1_enter 59 = .ok (.iload 4, 2) := by decide +kernel
theorem dX1_enter_61 : decode cX1_enter 61 = .ok (.aaload, 1) := by decide +kernel
theorem dX1_enter_62 : decode cX1_enter 62 = .ok (.getfield 150, 3) := by decide +kernel
theorem dX1_enter_65 : decode cX1_enter 65 = .ok (.aload 5, 2) := by decide +kernel
theorem dX1_enter_67 : decode cX1_enter 67 = .ok (.getfield 153, 3) := by decide +kernel
theorem dX1_enter_70 : decode cX1_enter 70 = .ok (.imul, 1) := by decide +kernel
theorem dX1_enter_71 : decode cX1_enter 71 = .ok (.putfield 88, 3) := by decide +kernel
theorem dX1_enter_74 : decode cX1_enter 74 = .ok (.aload_n 0, 1) := by decide +kernel
theorem dX1_enter_75 : decode cX1_enter 75 = .ok (.getfield 17, 3) := by decide +kernel
theorem dX1_enter_78 : decode cX1_enter 78 = .ok (.iload 4, 2) := by decide +kernel
theorem dX1_enter_80 : decode cX1_enter 80 = .ok (.aaload, 1) := by decide +kernel
theorem dX1_enter_81 : decode cX1_enter 81 = .ok (.iload_n 1, 1) := by decide +kernel
theorem dX1_enter_82 : decode cX1_enter 82 = .ok (.putfield 147, 3) := by decide +kernel
theorem dX1_enter_85 : decode cX1_enter 85 = .ok (.aload_n 0, 1) := by decide +kernel
theorem dX1_enter_86 : decode cX1_enter 86 = .ok (.getfield 17, 3) := by decide +kernel
theorem dX1_enter_89 : decode cX1_enter 89 = .ok (.iload 4, 2) := by decide +kernel
theorem dX1_enter_91 : decode cX1_enter 91 = .ok (.aaload, 1) := by decide +kernel
theorem dX1_enter_92 : decode cX1_enter 92 = .ok (.iconst (-1), 1) := by decide +kernel
theorem dX1_enter_93 : decode cX1_enter 93 = .ok (.putfield 156, 3) := by decide +kernel
theorem dX1_enter_96 : decode cX1_enter 96 = .ok (.return_, 1) := by decide +kernel
theorem dX1_giveTurns_0 : decode cX1_giveTurns 0 = .ok (.iconst 0, 1) := by decide +kernel
theorem dX1_giveTurns_1 : decode cX1_giveTurns 1 = .ok (.istore_n 1, 1) := by decide +kernel
theorem dX1_giveTurns_2 : decode cX1_giveTurns 2 = .ok (.iconst 0, 1) := by decide +kernel
theorem dX1_giveTurns_3 : decode cX1_giveTurns 3 = .ok (.istore_n 2, 1) := by decide +kernel
theorem dX1_giveTurns_4 : decode cX1_giveTurns 4 = .ok (.iload_n 2, 1) := by decide +kernel
theorem dX1_giveTurns_5 : decode cX1_giveTurns 5 = .ok (.aload_n 0, 1) := by decide +kernel
theorem dX1_giveTurns_6 : decode cX1_giveTurns 6 = .ok (.getfield 59, 3) := by decide +kernel
theorem dX1_giveTurns_9 : decode cX1_giveTurns 9 = .ok (.if_icmp .ge 32, 3) := by decide +kernel
theorem dX1_giveTurns_12 : decode cX1_giveTurns 12 = .ok (.aload_n 0, 1) := by decide +kernel
theorem dX1_giveTurns_13 : decode cX1_giveTurns 13 = .ok (.iload_n 1, 1) := by decide +kernel
theorem dX1_giveTurns_14 : decode cX1_giveTurns 14 = .ok (.invokevirtual 159, 3) := by decide +kernel
theorem dX1_giveTurns_17 : decode cX1_giveTurns 17 = .ok (.istore_n 3, 1) := by decide +kernel
theorem dX1_giveTurns_18 : decode cX1_giveTurns 18 = .ok (.iload_n 3, 1) := by decide +kernel
theorem dX1_giveTurns_19 : decode cX1_giveTurns 19 = .ok (.iconst (-1), 1) := by decide +kernel
theorem dX1_giveTurns_20 : decode cX1_giveTurns 20 = .ok (.if_icmp .ne 4, 3) := by decide +kernel
theorem dX1_giveTurns_23 : decode cX1_giveTurns 23 = .ok (.return_, 1) := by decide +kernel
theorem dX1_giveTurns_24 : decode cX1_giveTurns 24 = .ok (.iload_n 1, 1) := by decide +kernel
theorem dX1_giveTurns_25 : decode cX1_giveTurns 25 = .ok (.iconst 1, 1) := by decide +kernel
theorem dX1_giveTurns_26 : decode cX1_giveTurns 26 = .ok (.iload_n 3, 1) := by decide +kernel
theorem dX1_giveTurns_27 : decode cX1_giveTurns 27 = .ok (.ishl, 1) := by decide +kernel
theorem dX1_giveTurns_28 : decode cX1_giveTurns 28 = .ok (.ior, 1) := by decide +kernel
theorem dX1_giveTurns_29 : decode cX1_giveTurns 29 = .ok (.istore_n 1, 1) := by decide +kernel
theorem dX1_giveTurns_30 : decode cX1_giveTurns 30 = .ok (.aload_n 0, 1) := by decide +kernel
theorem dX1_giveTurns_31 : decode cX1_giveTurns 31 = .ok (.iload_n 3, 1) := by decide +kernel
theorem dX1_giveTurns_32 : decode cX1_giveTurns 32 = .ok (.invokevirtual 162, 3) := by decide +kernel
theorem dX1_giveTurns_35 : decode cX1_giveTurns 35 = .ok (.iinc 2 1, 3) := by decide +kernel
theorem dX1_giveTurns_38 : decode cX1_giveTurns 38 = .ok (.goto (-34), 3) := by decide +kernel
theorem dX1_giveTurns_41 : decode cX1_giveTurns 41 = .ok (.return_, 1) := by decide +kernel
theorem dX1_firstReady_0 : decode cX1_firstReady 0 = .ok (.iconst (-1), 1) := by decide +kernel
theorem dX1_firstReady_1 : decode cX1_firstReady 1 = .ok (.istore_n 2, 1) := by decide +kernel
theorem dX1_firstReady_2 : decode cX1_firstReady 2 = .ok (.iconst 0, 1) := by decide +kernel
theorem dX1_firstReady_3 : decode cX1_firstReady 3 = .ok (.istore_n 3, 1) := by decide +kernel
theorem dX1_firstReady_4 : decode cX1_firstReady 4 = .ok (.iload_n 3, 1) := by decide +kernel
theorem dX1_firstReady_5 : decode cX1_firstReady 5 = .ok (.aload_n 0, 1) := by decide +kernel
theorem dX1_firstReady_6 : decode cX1_firstReady 6 = .ok (.getfield 59, 3) := by decide +kernel
theorem dX1_firstReady_9 : decode cX1_firstReady 9 = .ok (.if_icmp .ge 68, 3) := by decide +kernel
theorem dX1_firstReady_12 : decode cX1_firstReady 12 = .ok (.iload_n 1, 1) := by decide +kernel
theorem dX1_firstReady_13 : decode cX1_firstReady 13 = .ok (.iload_n 3, 1) := by decide +kernel
theorem dX1_firstReady_14 : decode cX1_firstReady 14 = .ok (.ishr, 1) := by decide +kernel
theorem dX1_firstReady_15 : decode cX1_firstReady 15 = .ok (.iconst 1, 1) := by decide +kernel
theorem dX1_firstReady_16 : decode cX1_firstReady 16 = .ok (.iand, 1) := by decide +kernel
theorem dX1_firstReady_17 : decode cX1_firstReady 17 = .ok (.ifCond .ne 20, 3) := by decide +kernel
theorem dX1_firstReady_20 : decode cX1_firstReady 20 = .ok (.aload_n 0, 1) := by decide +kernel
theorem dX1_firstReady_21 : decode cX1_firstReady 21 = .ok (.aload_n 0, 1) := by decide +kernel
theorem dX1_firstReady_22 : decode cX1_firstReady 22 = .ok (.getfield 29, 3) := by decide +kernel
theorem dX1_firstReady_25 : decode cX1_firstReady 25 = .ok (.iload_n 3, 1) := by decide +kernel
theorem dX1_firstReady_26 : decode cX1_firstReady 26 = .ok (.aaload, 1) := by decide +kernel
theorem dX1_firstReady_27 : decode cX1_firstReady 27 = .ok (.invokevirtual 165, 3) := by decide +kernel
theorem dX1_firstReady_30 : decode cX1_firstReady 30 = .ok (.ifCond .eq 7, 3) := by decide +kernel
theorem dX1_firstReady_33 : decode cX1_firstReady 33 = .ok (.iconst 1, 1) := by decide +kernel
theorem dX1_firstReady_34 : decode cX1_firstReady 34 = .ok (.goto 4, 3) := by decide +kernel
theorem dX1_firstReady_37 : decode cX1_firstReady 37 = .ok (.iconst 0, 1) := by decide +kernel
theorem dX1_firstReady_38 : decode cX1_firstReady 38 = .ok (.istore 4, 2) := by decide +kernel
theorem dX1_firstReady_40 : decode cX1_firstReady 40 = .ok (.iload 4, 2) := by decide +kernel
theorem dX1_firstReady_42 : decode cX1_firstReady 42 = .ok (.ifCond .eq 29, 3) := by decide +kernel
theorem dX1_firstReady_45 : decode cX1_firstReady 45 = .ok (.iload_n 2, 1) := by decide +kernel
theorem dX1_firstReady_46 : decode cX1_firstReady 46 = .ok (.iconst (-1), 1) := by decide +kernel
theorem dX1_firstReady_47 : decode cX1_firstReady 47 = .ok (.if_icmp .eq 22, 3) := by decide +kernel
theorem dX1_firstReady_50 : decode cX1_firstReady 50 = .ok (.aload_n 0, 1) := by decide +kernel
theorem dX1_firstReady_51 : decode cX1_firstReady 51 = .ok (.aload_n 0, 1) := by decide +kernel
theorem dX1_firstReady_52 : decode cX1_firstReady 52 = .ok (.getfield 29, 3) := by decide +kernel
theorem dX1_firstReady_55 : decode cX1_firstReady 55 = .ok (.iload_n 3, 1) := by decide +kernel
theorem dX1_firstReady_56 : decode cX1_firstReady 56 = .ok (.aaload, 1) := by decide +kernel
theorem dX1_firstReady_57 : decode cX1_firstReady 57 = .ok (.aload_n 0, 1) := by decide +kernel
theorem dX1_firstReady_58 : decode cX1_firstReady 58 = .ok (.getfield 29, 3) := by decide +kernel
theorem dX1_firstReady_61 : decode cX1_firstReady 61 = .ok (.iload_n 2, 1) := by decide +kernel
theorem dX1_firstReady_62 : decode cX1_firstReady 62 = .ok (.aaload, 1) := by decide +kernel
theorem dX1_firstReady_63 : decode cX1_firstReady 63 = .ok (.invokevirtual 169, 3) := by decide +kernel
theorem dX1_firstReady_66 : decode cX1_firstReady 66 = .ok (.ifCond .eq 5, 3) := by decide +kernel
theorem dX1_firstReady_69 : decode cX1_firstReady 69 = .ok (.iload_n 3, 1) := by decide +kernel
theorem dX1_firstReady_70 : decode cX1_firstReady 70 = .ok (.istore_n 2, 1) := by decide +kernel
theorem dX1_firstReady_71 : decode cX1_firstReady 71 = .ok (.iinc 3 1, 3) := by decide +kernel
theorem dX1_firstReady_74 : decode cX1_firstReady 74 = .ok (.goto (-70), 3) := by decide +kernel
theorem dX1_firstReady_77 : decode cX1_firstReady 77 = .ok (.iload_n 2, 1) := by decide +kernel
theorem dX1_firstReady_78 : decode cX1_firstReady 78 = .ok (.ireturn, 1) := by decide +kernel
theorem dX1_goesAhead_0 : decode cX1_goesAhead 0 = .ok (.aload_n 0, 1) := by decide +kernel
theorem dX1_goesAhead_1 : decode cX1_goesAhead 1 = .ok (.getfield 65, 3) := by decide +kernel
theorem dX1_goesAhead_4 : decode cX1_goesAhead 4 = .ok (.iconst 1, 1) := by decide +kernel
theorem dX1_goesAhead_5 : decode cX1_goesAhead 5 = .ok (.if_icmp .ne 20, 3) := by decide +kernel
theorem dX1_goesAhead_8 : decode cX1_goesAhead 8 = .ok (.aload_n 1, 1) := by decide +kernel
theorem dX1_goesAhead_9 : decode cX1_goesAhead 9 = .ok (.getfield 173, 3) := by decide +kernel
theorem dX1_goesAhead_12 : decode cX1_goesAhead 12 = .ok (.aload_n 2, 1) := by decide +kernel
theorem dX1_goesAhead_13 : decode cX1_goesAhead 13 = .ok (.getfield 173, 3) := by decide +kernel
theorem dX1_goesAhead_16 : decode cX1_goesAhead 16 = .ok (.if_icmp .le 7, 3) := by decide +kernel
theorem dX1_goesAhead_19 : decode cX1_goesAhead 19 = .ok (.iconst 1, 1) := by decide +kernel
theorem dX1_goesAhead_20 : decode cX1_goesAhead 20 = .ok (.goto 4, 3) := by decide +kernel
theorem dX1_goesAhead_23 : decode cX1_goesAhead 23 = .ok (.iconst 0, 1) := by decide +kernel
theorem dX1_goesAhead_24 : decode cX1_goesAhead 24 = .ok (.ireturn, 1) := by decide +kernel
theorem dX1_goesAhead_25 : decode cX1_goesAhead 25 = .ok (.aload_n 0, 1) := by decide +kernel
theorem dX1_goesAhead_26 : decode cX1_goesAhead 26 = .ok (.getfield 65, 3) := by decide +kernel
theorem dX1_goesAhead_29 : decode cX1_goesAhead 29 = .ok (.iconst 2, 1) := by decide +kernel
theorem dX1_goesAhead_30 : decode cX1_goesAhead 30 = .ok (.if_icmp .ne 26, 3) := by decide +kernel
theorem dX1_goesAhead_33 : decode cX1_goesAhead 33 = .ok (.aload_n 1, 1) := by decide +kernel
theorem dX1_goesAhead_34 : decode cX1_goesAhead 34 = .ok (.aload_n 1, 1) := by decide +kernel
theorem dX1_goesAhead_35 : decode cX1_goesAhead 35 = .ok (.getfield 125, 3) := by decide +kernel
theorem dX1_goesAhead_38 : decode cX1_goesAhead 38 = .ok (.invokevirtual 176, 3) := by decide +kernel
theorem dX1_goesAhead_41 : decode cX1_goesAhead 41 = .ok (.aload_n 2, 1) := by decide +kernel
theorem dX1_goesAhead_42 : decode cX1_goesAhead 42 = .ok (.aload_n 2, 1) := by decide +kernel
theorem dX1_goesAhead_43 : decode cX1_goesAhead 43 = .ok (.getfield 125, 3) := by decide +kernel
theorem dX1_goesAhead_46 : decode cX1_goesAhead 46 = .ok (.invokevirtual 176, 3) := by decide +kernel
theorem dX1_goesAhead_49 : decode cX1_goesAhead 49 = .ok (.if_icmp .ge 7, 3) := by decide +kernel
theorem dX1_goesAhead_52 : decode cX1_goesAhead 52 = .ok (.iconst 1, 1) := by decide +kernel
theorem dX1_goesAhead_53 : decode cX1_goesAhead 53 = .ok (.goto 4, 3) := by decide +kernel
theorem dX1_goesAhead_56 : decode cX1_goesAhead 56 = .ok (.iconst 0, 1) := by decide +kernel
theorem dX1_goesAhead_57 : decode cX1_goesAhead 57 = .ok (.ireturn, 1) := by decide +kernel
theorem dX1_takeTurn_0 : decode cX1_takeTurn 0 = .ok (.iconst (-1), 1) := by decide +kernel
theorem dX1_takeTurn_1 : decode cX1_takeTurn 1 = .ok (.istore_n 2, 1) := by decide +kernel
theorem dX1_takeTurn_2 : decode cX1_takeTurn 2 = .ok (.iconst 0, 1) := by decide +kernel
theorem dX1_takeTurn_3 : decode cX1_takeTurn 3 = .ok (.istore_n 3, 1) := by decide +kernel
theorem dX1_takeTurn_4 : decode cX1_takeTurn 4 = .ok (.iload_n 3, 1) := by decide +kernel
theorem dX1_takeTurn_5 : decode cX1_takeTurn 5 = .ok (.aload_n 0, 1) := by decide +kernel
theorem dX1_takeTurn_6 : decode cX1_takeTurn 6 = .ok (.getfield 53, 3) := by decide +kernel
theorem dX1_takeTurn_9 : decode cX1_takeTurn 9 = .ok (.if_icmp .ge 60, 3) := by decide +kernel
theorem dX1_takeTurn_12 : decode cX1_takeTurn 12 = .ok (.aload_n 0, 1) := by decide +kernel
theorem dX1_takeTurn_13 : decode cX1_takeTurn 13 = .ok (.aload_n 0, 1) := by decide +kernel
theorem dX1_takeTurn_14 : decode cX1_takeTurn 14 = .ok (.getfield 23, 3) := by decide +kernel
theorem dX1_takeTurn_17 : decode cX1_takeTurn 17 = .ok (.iload_n 3, 1) := by decide +kernel
theorem dX1_takeTurn_18 : decode cX1_takeTurn 18 = .ok (.aaload, 1) := by decide +kernel
theorem dX1_takeTurn_19 : decode cX1_takeTurn 19 = .ok (.aload_n 0, 1) := by decide +kernel
theorem dX1_takeTurn_20 : decode cX1_takeTurn 20 = .ok (.getfield 29, 3) := by decide +kernel
theorem dX1_takeTurn_23 : decode cX1_takeTurn 23 = .ok (.iload_n 1, 1) := by decide +kernel
theorem dX1_takeTurn_24 : decode cX1_takeTurn 24 = .ok (.aaload, 1) := by decide +kernel
theorem dX1_takeTurn_25 : decode cX1_takeTurn 25 = .ok (.invokevirtual 179, 3) := by decide +kernel
theorem dX1_takeTurn_28 : decode cX1_takeTurn 28 = .ok (.ifCond .eq 35, 3) := by decide +kernel
theorem dX1_takeTurn_31 : decode cX1_takeTurn 31 = .ok (.aload_n 0, 1) := by decide +kernel
theorem dX1_takeTurn_32 : decode cX1_takeTurn 32 = .ok (.aload_n 0, 1) := by decide +kernel
theorem dX1_takeTurn_33 : decode cX1_takeTurn 33 = .ok (.getfield 23, 3) := by decide +kernel
theorem dX1_takeTurn_36 : decode cX1_takeTurn 36 = .ok (.iload_n 3, 1) := by decide +kernel
theorem dX1_takeTurn_37 : decode cX1_takeTurn 37 = .ok (.aaload, 1) := by decide +kernel
theorem dX1_takeTurn_38 : decode cX1_takeTurn 38 = .ok (.iload_n 1, 1) := by decide +kernel
theorem dX1_takeTurn_39 : decode cX1_takeTurn 39 = .ok (.invokevirtual 183, 3) := by decide +kernel
theorem dX1_takeTurn_42 : decode cX1_takeTurn 42 = .ok (.ifCond .eq 10, 3) := by decide +kernel
theorem dX1_takeTurn_45 : decode cX1_takeTurn 45 = .ok (.aload_n 0, 1) := by decide +kernel
theorem dX1_takeTurn_46 : decode cX1_takeTurn 46 = .ok (.iload_n 1, 1) := by decide +kernel
theorem dX1_takeTurn_47 : decode cX1_takeTurn 47 = .ok (.iload_n 3, 1) := by decide +kernel
theorem dX1_takeTurn_48 : decode cX1_takeTurn 48 = .ok (.invokevirtual 187, 3) := by decide +kernel
theorem dX1_takeTurn_51 : decode cX1_takeTurn 51 = .ok (.return_, 1) := by decide +kernel
theorem dX1_takeTurn_52 : decode cX1_takeTurn 52 = .ok (.iload_n 2, 1) := by decide +kernel
theorem dX1_takeTurn_53 : decode cX1_takeTurn 53 = .ok (.iconst (-1), 1) := by decide +kernel
theorem dX1_takeTurn_54 : decode cX1_takeTurn 54 = .ok (.if_icmp .ne 7, 3) := by decide +kernel
theorem dX1_takeTurn_57 : decode cX1_takeTurn 57 = .ok (.iload_n 3, 1) := by decide +kernel
theorem dX1_takeTurn_58 : decode cX1_takeTurn 58 = .ok (.goto 4, 3) := by decide +kernel
theorem dX1_takeTurn_61 : decode cX1_takeTurn 61 = .ok (.iload_n 2, 1) := by decide +kernel
theorem dX1_takeTurn_62 : decode cX1_takeTurn 62 = .ok (.istore_n 2, 1) := by decide +kernel
theorem dX1_takeTurn_63 : decode cX1_takeTurn 63 = .ok (.iinc 3 1, 3) := by decide +kernel
theorem dX1_takeTurn_66 : decode cX1_takeTurn 66 = .ok (.goto (-62), 3) := by decide +kernel
theorem dX1_takeTurn_69 : decode cX1_takeTurn 69 = .ok (.aload_n 0, 1) := by decide +kernel
theorem dX1_takeTurn_70 : decode cX1_takeTurn 70 = .ok (.getfield 29, 3) := by decide +kernel
theorem dX1_takeTurn_73 : decode cX1_takeTurn 73 = .ok (.iload_n 1, 1) := by decide +kernel
theorem dX1_takeTurn_74 : decode cX1_takeTurn 74 = .ok (.aaload, 1) := by decide +kernel
theorem dX1_takeTurn_75 : decode cX1_takeTurn 75 = .ok (.iload_n 2, 1) := by decide +kernel
theorem dX1_takeTurn_76 : decode cX1_takeTurn 76 = .ok (.iconst (-1), 1) := by decide +kernel
theorem dX1_takeTurn_77 : decode cX1_takeTurn 77 = .ok (.if_icmp .ne 7, 3) := by decide +kernel
theorem dX1_takeTurn_80 : decode cX1_takeTurn 80 = .ok (.iconst (-1), 1) := by decide +kernel
theorem dX1_takeTurn_81 : decode cX1_takeTurn 81 = .ok (.goto 14, 3) := by decide +kernel
theorem dX1_takeTurn_84 : decode cX1_takeTurn 84 = .ok (.aload_n 0, 1) := by decide +kernel
theorem dX1_takeTurn_85 : decode cX1_takeTurn 85 = .ok (.aload_n 0, 1) := by decide +kernel
theorem dX1_takeTurn_86 : decode cX1_takeTurn 86 = .ok (.getfield 23, 3) := by decide +kernel
theorem dX1_takeTurn_89 : decode cX1_takeTurn 89 = .ok (.iload_n 2, 1) := by decide +kernel
theorem dX1_takeTurn_90 : decode cX1_takeTurn 90 = .ok (.aaload, 1) := by decide +kernel
theorem dX1_takeTurn_91 : decode cX1_takeTurn 91 = .ok (.iload_n 1, 1) := by decide +kernel
theorem dX1_takeTurn_92 : decode cX1_takeTurn 92 = .ok (.invokevirtual 191, 3) := by decide +kernel
theorem dX1_takeTurn_95 : decode cX1_takeTurn 95 = .ok (.invokevirtual 122, 3) := by decide +kernel
theorem dX1_takeTurn_98 : decode cX1_takeTurn 98 = .ok (.return_, 1) := by decide +kernel
theorem dX1_leadsOn_0 : decode cX1_leadsOn 0 = .ok (.aload_n 1, 1) := by decide +kernel
theorem dX1_leadsOn_1 : decode cX1_leadsOn 1 = .ok (.aload_n 2, 1) := by decide +kernel
theorem dX1_leadsOn_2 : decode cX1_leadsOn 2 = .ok (.getfield 140, 3) := by decide +kernel
theorem dX1_leadsOn_5 : decode cX1_leadsOn 5 = .ok (.aload_n 2, 1) := by decide +kernel
theorem dX1_leadsOn_6 : decode cX1_leadsOn 6 = .ok (.aload_n 2, 1) := by decide +kernel
theorem dX1_leadsOn_7 : decode cX1_leadsOn 7 = .ok (.getfield 125, 3) := by decide +kernel
theorem dX1_leadsOn_10 : decode cX1_leadsOn 10 = .ok (.iconst 1, 1) := by decide +kernel
theorem dX1_leadsOn_11 : decode cX1_leadsOn 11 = .ok (.iadd, 1) := by decide +kernel
theorem dX1_leadsOn_12 : decode cX1_leadsOn 12 = .ok (.invokevirtual 137, 3) := by decide +kernel
theorem dX1_leadsOn_15 : decode cX1_leadsOn 15 = .ok (.invokevirtual 195, 3) := by decide +kernel
theorem dX1_leadsOn_18 : decode cX1_leadsOn 18 = .ok (.ireturn, 1) := by decide +kernel
theorem dX1_setOut_0 : decode cX1_setOut 0 = .ok (.aload_n 0, 1) := by decide +kernel
theorem dX1_setOut_1 : decode cX1_setOut 1 = .ok (.getfield 29, 3) := by decide +kernel
theorem dX1_setOut_4 : decode cX1_setOut 4 = .ok (.iload_n 1, 1) := by decide +kernel
theorem dX1_setOut_5 : decode cX1_setOut 5 = .ok (.aaload, 1) := by decide +kernel
theorem dX1_setOut_6 : decode cX1_setOut 6 = .ok (.aload_n 0, 1) := by decide +kernel
theorem dX1_setOut_7 : decode cX1_setOut 7 = .ok (.getfield 68, 3) := by decide +kernel
theorem dX1_setOut_10 : decode cX1_setOut 10 = .ok (.invokevirtual 134, 3) := by decide +kernel
theorem dX1_setOut_13 : decode cX1_setOut 13 = .ok (.aload_n 0, 1) := by decide +kernel
theorem dX1_setOut_14 : decode cX1_setOut 14 = .ok (.iload_n 1, 1) := by decide +kernel
theorem dX1_setOut_15 : decode cX1_setOut 15 = .ok (.iload_n 2, 1) := by decide +kernel
theorem dX1_setOut_16 : decode cX1_setOut 16 = .ok (.iconst 0, 1) := by decide +kernel
theorem dX1_setOut_17 : decode cX1_setOut 17 = .ok (.invokevirtual 114, 3) := by decide +kernel
theorem dX1_setOut_20 : decode cX1_setOut 20 = .ok (.aload_n 0, 1) := by decide +kernel
theorem dX1_setOut_21 : decode cX1_setOut 21 = .ok (.getfield 23, 3) := by decide +kernel
theorem dX1_setOut_24 : decode cX1_setOut 24 = .ok (.iload_n 2, 1) := by decide +kernel
theorem dX1_setOut_25 : decode cX1_setOut 25 = .ok (.aaload, 1) := by decide +kernel
theorem dX1_setOut_26 : decode cX1_setOut 26 = .ok (.getfield 198, 3) := by decide +kernel
theorem dX1_setOut_29 : decode cX1_setOut 29 = .ok (.ifCond .eq 14, 3) := by decide +kernel
theorem dX1_setOut_32 : decode cX1_setOut 32 = .ok (.aload_n 0, 1) := by decide +kernel
theorem dX1_setOut_33 : decode cX1_setOut 33 = .ok (.iload_n 1, 1) := by decide +kernel
theorem dX1_setOut_34 : decode cX1_setOut 34 = .ok (.aload_n 0, 1) := by decide +kernel
theorem dX1_setOut_35 : decode cX1_setOut 35 = .ok (.getfield 23, 3) := by decide +kernel
theorem dX1_setOut_38 : decode cX1_setOut 38 = .ok (.iload_n 2, 1) := by decide +kernel
theorem dX1_setOut_39 : decode cX1_setOut 39 = .ok (.aaload, 1) := by decide +kernel
theorem dX1_setOut_40 : decode cX1_setOut 40 = .ok (.invokevirtual 202, 3) := by decide +kernel
theorem dX1_setOut_43 : decode cX1_setOut 43 = .ok (.return_, 1) := by decide +kernel
theorem dX1_lockRest_0 : decode cX1_lockRest 0 = .ok (.iconst 1, 1) := by decide +kernel
theorem dX1_lockRest_1 : decode cX1_lockRest 1 = .ok (.istore_n 3, 1) := by decide +kernel
theorem dX1_lockRest_2 : decode cX1_lockRest 2 = .ok (.iload_n 3, 1) := by decide +kernel
theorem dX1_lockRest_3 : decode cX1_lockRest 3 = .ok (.aload_n 2, 1) := by decide +kernel
theorem dX1_lockRest_4 : decode cX1_lockRest 4 = .ok (.getfield 97, 3) := by decide +kernel
theorem dX1_lockRest_7 : decode cX1_lockRest 7 = .ok (.if_icmp .ge 41, 3) := by decide +kernel
theorem dX1_lockRest_10 : decode cX1_lockRest 10 = .ok (.aload_n 2, 1) := by decide +kernel
theorem dX1_lockRest_11 : decode cX1_lockRest 11 = .ok (.iload_n 3, 1) := by decide +kernel
theorem dX1_lockRest_12 : decode cX1_lockRest 12 = .ok (.invokevirtual 103, 3) := by decide +kernel
theorem dX1_lockRest_15 : decode cX1_lockRest 15 = .ok (.istore 4, 2) := by decide +kernel
theorem dX1_lockRest_17 : decode cX1_lockRest 17 = .ok (.iload 4, 2) := by decide +kernel
theorem dX1_lockRest_19 : decode cX1_lockRest 19 = .ok (.ifCond .lt 23, 3) := by decide +kernel
theorem dX1_lockRest_22 : decode cX1_lockRest 22 = .ok (.iload 4, 2) := by decide +kernel
theorem dX1_lockRest_24 : decode cX1_lockRest 24 = .ok (.aload_n 0, 1) := by decide +kernel
theorem dX1_lockRest_25 : decode cX1_lockRest 25 = .ok (.getfield 46, 3) := by decide +kernel
theorem dX1_lockRest_28 : decode cX1_lockRest 28 = .ok (.if_icmp .ge 14, 3) := by decide +kernel
theorem dX1_lockRest_31 : decode cX1_lockRest 31 = .ok (.aload_n 0, 1) := by decide +kernel
theorem dX1_lockRest_32 : decode cX1_lockRest 32 = .ok (.getfield 17, 3) := by decide +kernel
theorem dX1_lockRest_35 : decode cX1_lockRest 35 = .ok (.iload 4, 2) := by decide +kernel
theorem dX1_lockRest_37 : decode cX1_lockRest 37 = .ok (.aaload, 1) := by decide +kernel
theorem dX1_lockRest_38 : decode cX1_lockRest 38 = .ok (.iload_n 1, 1) := by decide +kernel
theorem dX1_lockRest_39 : decode cX1_lockRest 39 = .ok (.putfield 156, 3) := by decide +kernel
theorem dX1_lockRest_42 : decode cX1_lockRest 42 = .ok (.iinc 3 1, 3) := by decide +kernel
theorem dX1_lockRest_45 : decode cX1_lockRest 45 = .ok (.goto (-43), 3) := by decide +kernel
theorem dX1_lockRest_48 : decode cX1_lockRest 48 = .ok (.return_, 1) := by decide +kernel
theorem dX1_blameOn_0 : decode cX1_blameOn 0 = .ok (.aload_n 0, 1) := by decide +kernel
theorem dX1_blameOn_1 : decode cX1_blameOn 1 = .ok (.aload_n 0, 1) := by decide +kernel
theorem dX1_blameOn_2 : decode cX1_blameOn 2 = .ok (.aload_n 1, 1) := by decide +kernel
theorem dX1_blameOn_3 : decode cX1_blameOn 3 = .ok (.iload_n 2, 1) := by decide +kernel
theorem dX1_blameOn_4 : decode cX1_blameOn 4 = .ok (.invokevirtual 206, 3) := by decide +kernel
theorem dX1_blameOn_7 : decode cX1_blameOn 7 = .ok (.iload_n 2, 1) := by decide +kernel
theorem dX1_blameOn_8 : decode cX1_blameOn 8 = .ok (.invokevirtual 118, 3) := by decide +kernel
theorem dX1_blameOn_11 : decode cX1_blameOn 11 = .ok (.ireturn, 1) := by decide +kernel
theorem dX1_firstNotClear_0 : decode cX1_firstNotClear 0 = .ok (.iconst 0, 1) := by decide +kernel
theorem dX1_firstNotClear_1 : decode cX1_firstNotClear 1 = .ok (.istore_n 3, 1) := by decide +kernel
theorem dX1_firstNotClear_2 : decode cX1_firstNotClear 2 = .ok (.iload_n 3, 1) := by decide +kernel
theorem dX1_firstNotClear_3 : decode cX1_firstNotClear 3 = .ok (.aload_n 1, 1) := by decide +kernel
theorem dX1_firstNotClear_4 : decode cX1_firstNotClear 4 = .ok (.invokevirtual 209, 3) := by decide +kernel
theorem dX1_firstNotClear_7 : decode cX1_firstNotClear 7 = .ok (.if_icmp .ge 28, 3) := by decide +kernel
theorem dX1_firstNotClear_10 : decode cX1_firstNotClear 10 = .ok (.aload_n 0, 1) := by decide +kernel
theorem dX1_firstNotClear_11 : decode cX1_firstNotClear 11 = .ok (.aload_n 1, 1) := by decide +kernel
theorem dX1_firstNotClear_12 : decode cX1_firstNotClear 12 = .ok (.iload_n 3, 1) := by decide +kernel
theorem dX1_firstNotClear_13 : decode cX1_firstNotClear 13 = .ok (.invokevirtual 103, 3) := by decide +kernel
theorem dX1_firstNotClear_16 : decode cX1_firstNotClear 16 = .ok (.iload_n 2, 1) := by decide +kernel
theorem dX1_firstNotClear_17 : decode cX1_firstNotClear 17 = .ok (.invokevirtual 107, 3) := by decide +kernel
theorem dX1_firstNotClear_20 : decode cX1_firstNotClear 20 = .ok (.ifCond .ne 9, 3) := by decide +kernel
theorem dX1_firstNotClear_23 : decode cX1_firstNotClear 23 = .ok (.aload_n 1, 1) := by decide +kernel
theorem dX1_firstNotClear_24 : decode cX1_firstNotClear 24 = .ok (.iload_n 3, 1) := by decide +kernel
theorem dX1_firstNotClear_25 : decode cX1_firstNotClear 25 = .ok (.invokevirtual 103, 3) := by decide +kernel
theorem dX1_firstNotClear_28 : decode cX1_firstNotClear 28 = .ok (.ireturn, 1) := by decide +kernel
theorem dX1_firstNotClear_29 : decode cX1_firstNotClear 29 = .ok (.iinc 3 1, 3) := by decide +kernel
theorem dX1_firstNotClear_32 : decode cX1_firstNotClear 32 = .ok (.goto (-30), 3) := by decide +kernel
theorem dX1_firstNotClear_35 : decode cX1_firstNotClear 35 = .ok (.iconst (-1), 1) := by decide +kernel
theorem dX1_firstNotClear_36 : decode cX1_firstNotClear 36 = .ok (.ireturn, 1) := by decide +kernel
theorem dX1_isReady_0 : decode cX1_isReady 0 = .ok (.aload_n 1, 1) := by decide +kernel
theorem dX1_isReady_1 : decode cX1_isReady 1 = .ok (.invokevirtual 213, 3) := by decide +kernel
theorem dX1_isReady_4 : decode cX1_isReady 4 = .ok (.ifCond .eq 56, 3) := by decide +kernel
theorem dX1_isReady_7 : decode cX1_isReady 7 = .ok (.aload_n 1, 1) := by decide +kernel
theorem dX1_isReady_8 : decode cX1_isReady 8 = .ok (.invokevirtual 131, 3) := by decide +kernel
theorem dX1_isReady_11 : decode cX1_isReady 11 = .ok (.ifCond .ne 49, 3) := by decide +kernel
theorem dX1_isReady_14 : decode cX1_isReady 14 = .ok (.aload_n 0, 1) := by decide +kernel
theorem dX1_isReady_15 : decode cX1_isReady 15 = .ok (.getfield 68, 3) := by decide +kernel
theorem dX1_isReady_18 : decode cX1_isReady 18 = .ok (.aload_n 1, 1) := by decide +kernel
theorem dX1_isReady_19 : decode cX1_isReady 19 = .ok (.aload_n 1, 1) := by decide +kernel
theorem dX1_isReady_20 : decode cX1_isReady 20 = .ok (.getfield 125, 3) := by decide +kernel
theorem dX1_isReady_23 : decode cX1_isReady 23 = .ok (.invokevirtual 176, 3) := by decide +kernel
theorem dX1_isReady_26 : decode cX1_isReady 26 = .ok (.if_icmp .lt 34, 3) := by decide +kernel
theorem dX1_isReady_29 : decode cX1_isReady 29 = .ok (.aload_n 0, 1) := by decide +kernel
theorem dX1_isReady_30 : decode cX1_isReady 30 = .ok (.getfield 68, 3) := by decide +kernel
theorem dX1_isReady_33 : decode cX1_isReady 33 = .ok (.aload_n 1, 1) := by decide +kernel
theorem dX1_isReady_34 : decode cX1_isReady 34 = .ok (.getfield 128, 3) := by decide +kernel
theorem dX1_isReady_37 : decode cX1_isReady 37 = .ok (.isub, 1) := by decide +kernel
theorem dX1_isReady_38 : decode cX1_isReady 38 = .ok (.aload_n 0, 1) := by decide +kernel
theorem dX1_isReady_39 : decode cX1_isReady 39 = .ok (.getfield 33, 3) := by decide +kernel
theorem dX1_isReady_42 : decode cX1_isReady 42 = .ok (.if_icmp .lt 18, 3) := by decide +kernel
theorem dX1_isReady_45 : decode cX1_isReady 45 = .ok (.aload_n 0, 1) := by decide +kernel
theorem dX1_isReady_46 : decode cX1_isReady 46 = .ok (.getfield 68, 3) := by decide +kernel
theorem dX1_isReady_49 : decode cX1_isReady 49 = .ok (.aload_n 1, 1) := by decide +kernel
theorem dX1_isReady_50 : decode cX1_isReady 50 = .ok (.getfield 216, 3) := by decide +kernel
theorem dX1_isReady_53 : decode cX1_isReady 53 = .ok (.if_icmp .lt 7, 3) := by decide +kernel
theorem dX1_isReady_56 : decode cX1_isReady 56 = .ok (.iconst 1, 1) := by decide +kernel
theorem dX1_isReady_57 : decode cX1_isReady 57 = .ok (.goto 4, 3) := by decide +kernel
theorem dX1_isReady_60 : decode cX1_isReady 60 = .ok (.iconst 0, 1) := by decide +kernel
theorem dX1_isReady_61 : decode cX1_isReady 61 = .ok (.ireturn, 1) := by decide +kernel
theorem dX1_isOpenFor_0 : decode cX1_isOpenFor 0 = .ok (.aload_n 0, 1) := by decide +kernel
theorem dX1_isOpenFor_1 : decode cX1_isOpenFor 1 = .ok (.aload_n 1, 1) := by decide +kernel
theorem dX1_isOpenFor_2 : decode cX1_isOpenFor 2 = .ok (.getfield 219, 3) := by decide +kernel
theorem dX1_isOpenFor_5 : decode cX1_isOpenFor 5 = .ok (.invokevirtual 222, 3) := by decide +kernel
theorem dX1_isOpenFor_8 : decode cX1_isOpenFor 8 = .ok (.ifCond .eq 17, 3) := by decide +kernel
theorem dX1_isOpenFor_11 : decode cX1_isOpenFor 11 = .ok (.aload_n 0, 1) := by decide +kernel
theorem dX1_isOpenFor_12 : decode cX1_isOpenFor 12 = .ok (.aload_n 1, 1) := by decide +kernel
theorem dX1_isOpenFor_13 : decode cX1_isOpenFor 13 = .ok (.iload_n 2, 1) := by decide +kernel
theorem dX1_isOpenFor_14 : decode cX1_isOpenFor 14 = .ok (.invokevirtual 206, 3) := by decide +kernel
theorem dX1_isOpenFor_17 : decode cX1_isOpenFor 17 = .ok (.iconst (-1), 1) := by decide +kernel
theorem dX1_isOpenFor_18 : decode cX1_isOpenFor 18 = .ok (.if_icmp .ne 7, 3) := by decide +kernel
theorem dX1_isOpenFor_21 : decode cX1_isOpenFor 21 = .ok (.iconst 1, 1) := by decide +kernel
theorem dX1_isOpenFor_22 : decode cX1_isOpenFor 22 = .ok (.goto 4, 3) := by decide +kernel
theorem dX1_isOpenFor_25 : decode cX1_isOpenFor 25 = .ok (.iconst 0, 1) := by decide +kernel
theorem dX1_isOpenFor_26 : decode cX1_isOpenFor 26 = .ok (.ireturn, 1) := by decide +kernel
theorem dX1_isClearFor_0 : decode cX1_isClearFor 0 = .ok (.iload_n 1, 1) := by decide +kernel
theorem dX1_isClearFor_1 : decode cX1_isClearFor 1 = .ok (.ifCond .lt 11, 3) := by decide +kernel
theorem dX1_isClearFor_4 : decode cX1_isClearFor 4 = .ok (.iload_n 1, 1) := by decide +kernel
theorem dX1_isClearFor_5 : decode cX1_isClearFor 5 = .ok (.aload_n 0, 1) := by decide +kernel
theorem dX1_isClearFor_6 : decode cX1_isClearFor 6 = .ok (.getfield 46, 3) := by decide +kernel
theorem dX1_isClearFor_9 : decode cX1_isClearFor 9 = .ok (.if_icmp .lt 5, 3) := by decide +kernel
theorem dX1_isClearFor_12 : decode cX1_isClearFor 12 = .ok (.iconst 0, 1) := by decide +kernel
theorem dX1_isClearFor_13 : decode cX1_isClearFor 13 = .ok (.ireturn, 1) := by decide +kernel
theorem dX1_isClearFor_14 : decode cX1_isClearFor 14 = .ok (.aload_n 0, 1) := by decide +kernel
theorem dX1_isClearFor_15 : decode cX1_isClearFor 15 = .ok (.getfield 17, 3) := by decide +kernel
theorem dX1_isClearFor_18 : decode cX1_isClearFor 18 = .ok (.iload_n 1, 1) := by decide +kernel
theorem dX1_isClearFor_19 : decode cX1_isClearFor 19 = .ok (.aaload, 1) := by decide +kernel
theorem dX1_isClearFor_20 : decode cX1_isClearFor 20 = .ok (.astore_n 3, 1) := by decide +kernel
theorem dX1_isClearFor_21 : decode cX1_isClearFor 21 = .ok (.aload_n 3, 1) := by decide +kernel
theorem dX1_isClearFor_22 : decode cX1_isClearFor 22 = .ok (.getfield 156, 3) := by decide +kernel
theorem dX1_isClearFor_25 : decode cX1_isClearFor 25 = .ok (.iconst (-1), 1) := by decide +kernel
theorem dX1_isClearFor_26 : decode cX1_isClearFor 26 = .ok (.if_icmp .eq 11, 3) := by decide +kernel
theorem dX1_isClearFor_29 : decode cX1_isClearFor 29 = .ok (.aload_n 3, 1) := by decide +kernel
theorem dX1_isClearFor_30 : decode cX1_isClearFor 30 = .ok (.getfield 156, 3) := by decide +kernel
theorem dX1_isClearFor_33 : decode cX1_isClearFor 33 = .ok (.iload_n 2, 1) := by decide +kernel
theorem dX1_isClearFor_34 : decode cX1_isClearFor 34 = .ok (.if_icmp .ne 7, 3) := by decide +kernel
theorem dX1_isClearFor_37 : decode cX1_isClearFor 37 = .ok (.iconst 1, 1) := by decide +kernel
theorem dX1_isClearFor_38 : decode cX1_isClearFor 38 = .ok (.goto 4, 3) := by decide +kernel
theorem dX1_isClearFor_41 : decode cX1_isClearFor 41 = .ok (.iconst 0, 1) := by decide +kernel
theorem dX1_isClearFor_42 : decode cX1_isClearFor 42 = .ok (.istore 4, 2) := by decide +kernel
theorem dX1_isClearFor_44 : decode cX1_isClearFor 44 = .ok (.aload_n 0, 1) := by decide +kernel
theorem dX1_isClearFor_45 : decode cX1_isClearFor 45 = .ok (.getfield 68, 3) := by decide +kernel
theorem dX1_isClearFor_48 : decode cX1_isClearFor 48 = .ok (.aload_n 3, 1) := by decide +kernel
theorem dX1_isClearFor_49 : decode cX1_isClearFor 49 = .ok (.getfield 226, 3) := by decide +kernel
theorem dX1_isClearFor_52 : decode cX1_isClearFor 52 = .ok (.if_icmp .lt 20, 3) := by decide +kernel
theorem dX1_isClearFor_55 : decode cX1_isClearFor 55 = .ok (.aload_n 3, 1) := by decide +kernel
theorem dX1_isClearFor_56 : decode cX1_isClearFor 56 = .ok (.getfield 147, 3) := by decide +kernel
theorem dX1_isClearFor_59 : decode cX1_isClearFor 59 = .ok (.iconst (-1), 1) := by decide +kernel
theorem dX1_isClearFor_60 : decode cX1_isClearFor 60 = .ok (.if_icmp .ne 12, 3) := by decide +kernel
theorem dX1_isClearFor_63 : decode cX1_isClearFor 63 = .ok (.iload 4, 2) := by decide +kernel
theorem dX1_isClearFor_65 : decode cX1_isClearFor 65 = .ok (.ifCond .eq 7, 3) := by decide +kernel
theorem dX1_isClearFor_68 : decode cX1_isClearFor 68 = .ok (.iconst 1, 1) := by decide +kernel
theorem dX1_isClearFor_69 : decode cX1_isClearFor 69 = .ok (.goto 4, 3) := by decide +kernel
theorem dX1_isClearFor_72 : decode cX1_isClearFor 72 = .ok (.iconst 0, 1) := by decide +kernel
theorem dX1_isClearFor_73 : decode cX1_isClearFor 73 = .ok (.ireturn, 1) := by decide +kernel
theorem dX1_trainInTheWay_0 : decode cX1_trainInTheWay 0 = .ok (.iload_n 1, 1) := by decide +kernel
theorem dX1_trainInTheWay_1 : decode cX1_trainInTheWay 1 = .ok (.ifCond .lt 11, 3) := by decide +kernel
theorem dX1_trainInTheWay_4 : decode cX1_trainInTheWay 4 = .ok (.iload_n 1, 1) := by decide +kernel
theorem dX1_trainInTheWay_5 : decode cX1_trainInTheWay 5 = .ok (.aload_n 0, 1) := by decide +kernel
theorem dX1_trainInTheWay_6 : decode cX1_trainInTheWay 6 = .ok (.getfield 46, 3) := by decide +kernel
theorem dX1_trainInTheWay_9 : decode cX1_trainInTheWay 9 = .ok (.if_icmp .lt 5, 3) := by decide +kernel
theorem dX1_trainInTheWay_12 : decode cX1_trainInTheWay 12 = .ok (.iconst (-1), 1) := by decide +kernel
theorem dX1_trainInTheWay_13 : decode cX1_trainInTheWay 13 = .ok (.ireturn, 1) := by decide +kernel
theorem dX1_trainInTheWay_14 : decode cX1_trainInTheWay 14 = .ok (.aload_n 0, 1) := by decide +kernel
theorem dX1_trainInTheWay_15 : decode cX1_trainInTheWay 15 = .ok (.getfield 17, 3) := by decide +kernel
theorem dX1_trainInTheWay_18 : decode cX1_trainInTheWay 18 = .ok (.iload_n 1, 1) := by decide +kernel
theorem dX1_trainInTheWay_19 : decode cX1_trainInTheWay 19 = .ok (.aaload, 1) := by decide +kernel
theorem dX1_trainInTheWay_20 : decode cX1_trainInTheWay 20 = .ok (.astore_n 3, 1) := by decide +kernel
theorem dX1_trainInTheWay_21 : decode cX1_trainInTheWay 21 = .ok (.aload_n 3, 1) := by decide +kernel
theorem dX1_trainInTheWay_22 : decode cX1_trainInTheWay 22 = .ok (.getfield 147, 3) := by decide +kernel
theorem dX1_trainInTheWay_25 : decode cX1_trainInTheWay 25 = .ok (.iconst (-1), 1) := by decide +kernel
theorem dX1_trainInTheWay_26 : decode cX1_trainInTheWay 26 = .ok (.if_icmp .eq 8, 3) := by decide +kernel
theorem dX1_trainInTheWay_29 : decode cX1_trainInTheWay 29 = .ok (.aload_n 3, 1) := by decide +kernel
theorem dX1_trainInTheWay_30 : decode cX1_trainInTheWay 30 = .ok (.getfield 147, 3) := by decide +kernel
theorem dX1_trainInTheWay_33 : decode cX1_trainInTheWay 33 = .ok (.ireturn, 1) := by decide +kernel
theorem dX1_trainInTheWay_34 : decode cX1_trainInTheWay 34 = .ok (.aload_n 3, 1) := by decide +kernel
theorem dX1_trainInTheWay_35 : decode cX1_trainInTheWay 35 = .ok (.getfield 156, 3) := by decide +kernel
theorem dX1_trainInTheWay_38 : decode cX1_trainInTheWay 38 = .ok (.iload_n 2, 1) := by decide +kernel
theorem dX1_trainInTheWay_39 : decode cX1_trainInTheWay 39 = .ok (.if_icmp .ne 7, 3) := by decide +kernel
theorem dX1_trainInTheWay_42 : decode cX1_trainInTheWay 42 = .ok (.iconst (-1), 1) := by decide +kernel
theorem dX1_trainInTheWay_43 : decode cX1_trainInTheWay 43 = .ok (.goto 7, 3) := by decide +kernel
theorem dX1_trainInTheWay_46 : decode cX1_trainInTheWay 46 = .ok (.aload_n 3, 1) := by decide +kernel
theorem dX1_trainInTheWay_47 : decode cX1_trainInTheWay 47 = .ok (.getfield 156, 3) := by decide +kernel
theorem dX1_trainInTheWay_50 : decode cX1_trainInTheWay 50 = .ok (.ireturn, 1) := by decide +kernel
theorem dX1_hasRoom_0 : decode cX1_hasRoom 0 = .ok (.iload_n 1, 1) := by decide +kernel
theorem dX1_hasRoom_1 : decode cX1_hasRoom 1 = .ok (.ifCond .lt 33, 3) := by decide +kernel
theorem dX1_hasRoom_4 : decode cX1_hasRoom 4 = .ok (.iload_n 1, 1) := by decide +kernel
theorem dX1_hasRoom_5 : decode cX1_hasRoom 5 = .ok (.bipush 6, 2) := by decide +kernel
theorem dX1_hasRoom_7 : decode cX1_hasRoom 7 = .ok (.if_icmp .ge 27, 3) := by decide +kernel
theorem dX1_hasRoom_10 : decode cX1_hasRoom 10 = .ok (.aload_n 0, 1) := by decide +kernel
theorem dX1_hasRoom_11 : decode cX1_hasRoom 11 = .ok (.iload_n 1, 1) := by decide +kernel
theorem dX1_hasRoom_12 : decode cX1_hasRoom 12 = .ok (.invokevirtual 229, 3) := by decide +kernel
theorem dX1_hasRoom_15 : decode cX1_hasRoom 15 = .ok (.aload_n 0, 1) := by decide +kernel
theorem dX1_hasRoom_16 : decode cX1_hasRoom 16 = .ok (.iload_n 1, 1) := by decide +kernel
theorem dX1_hasRoom_17 : decode cX1_hasRoom 17 = .ok (.invokevirtual 232, 3) := by decide +kernel
theorem dX1_hasRoom_20 : decode cX1_hasRoom 20 = .ok (.iadd, 1) := by decide +kernel
theorem dX1_hasRoom_21 : decode cX1_hasRoom 21 = .ok (.aload_n 0, 1) := by decide +kernel
theorem dX1_hasRoom_22 : decode cX1_hasRoom 22 = .ok (.getfield 9, 3) := by decide +kernel
theorem dX1_hasRoom_25 : decode cX1_hasRoom 25 = .ok (.iload_n 1, 1) := by decide +kernel
theorem dX1_hasRoom_26 : decode cX1_hasRoom 26 = .ok (.iaload, 1) := by decide +kernel
theorem dX1_hasRoom_27 : decode cX1_hasRoom 27 = .ok (.if_icmp .ge 7, 3) := by decide +kernel
theorem dX1_hasRoom_30 : decode cX1_hasRoom 30 = .ok (.iconst 1, 1) := by decide +kernel
theorem dX1_hasRoom_31 : decode cX1_hasRoom 31 = .ok (.goto 4, 3) := by decide +kernel
theorem dX1_hasRoom_34 : decode cX1_hasRoom 34 = .ok (.iconst 0, 1) := by decide +kernel
theorem dX1_hasRoom_35 : decode cX1_hasRoom 35 = .ok (.ireturn, 1) := by decide +kernel
theorem dX1_isInUse_0 : decode cX1_isInUse 0 = .ok (.iconst 0, 1) := by decide +kernel
theorem dX1_isInUse_1 : decode cX1_isInUse 1 = .ok (.istore_n 2, 1) := by decide +kernel
theorem dX1_isInUse_2 : decode cX1_isInUse 2 = .ok (.iload_n 2, 1) := by decide +kernel
theorem dX1_isInUse_3 : decode cX1_isInUse 3 = .ok (.aload_n 0, 1) := by decide +kernel
theorem dX1_isInUse_4 : decode cX1_isInUse 4 = .ok (.getfield 59, 3) := by decide +kernel
theorem dX1_isInUse_7 : decode cX1_isInUse 7 = .ok (.if_icmp .ge 24, 3) := by decide +kernel
theorem dX1_isInUse_10 : decode cX1_isInUse 10 = .ok (.aload_n 0, 1) := by decide +kernel
theorem dX1_isInUse_11 : decode cX1_isInUse 11 = .ok (.getfield 29, 3) := by decide +kernel
theorem dX1_isInUse_14 : decode cX1_isInUse 14 = .ok (.iload_n 2, 1) := by decide +kernel
theorem dX1_isInUse_15 : decode cX1_isInUse 15 = .ok (.aaload, 1) := by decide +kernel
theorem dX1_isInUse_16 : decode cX1_isInUse 16 = .ok (.getfield 91, 3) := by decide +kernel
theorem dX1_isInUse_19 : decode cX1_isInUse 19 = .ok (.iload_n 1, 1) := by decide +kernel
theorem dX1_isInUse_20 : decode cX1_isInUse 20 = .ok (.if_icmp .ne 5, 3) := by decide +kernel
theorem dX1_isInUse_23 : decode cX1_isInUse 23 = .ok (.iconst 1, 1) := by decide +kernel
theorem dX1_isInUse_24 : decode cX1_isInUse 24 = .ok (.ireturn, 1) := by decide +kernel
theorem dX1_isInUse_25 : decode cX1_isInUse 25 = .ok (.iinc 2 1, 3) := by decide +kernel
theorem dX1_isInUse_28 : decode cX1_isInUse 28 = .ok (.goto (-26), 3) := by decide +kernel
theorem dX1_isInUse_31 : decode cX1_isInUse 31 = .ok (.iconst 0, 1) := by decide +kernel
theorem dX1_isInUse_32 : decode cX1_isInUse 32 = .ok (.ireturn, 1) := by decide +kernel
theorem dX1_waitsForItself_0 : decode cX1_waitsForItself 0 = .ok (.iload_n 1, 1) := by decide +kernel
theorem dX1_waitsForItself_1 : decode cX1_waitsForItself 1 = .ok (.istore_n 2, 1) := by decide +kernel
theorem dX1_waitsForItself_2 : decode cX1_waitsForItself 2 = .ok (.iconst 0, 1) := by decide +kernel
theorem dX1_waitsForItself_3 : decode cX1_waitsForItself 3 = .ok (.istore_n 3, 1) := by decide +kernel
theorem dX1_waitsForItself_4 : decode cX1_waitsForItself 4 = .ok (.iload_n 3, 1) := by decide +kernel
theorem dX1_waitsForItself_5 : decode cX1_waitsForItself 5 = .ok (.aload_n 0, 1) := by decide +kernel
theorem dX1_waitsForItself_6 : decode cX1_waitsForItself 6 = .ok (.getfield 59, 3) := by decide +kernel
theorem dX1_waitsForItself_9 : decode cX1_waitsForItself 9 = .ok (.if_icmp .ge 40, 3) := by decide +kernel
theorem dX1_waitsForItself_12 : decode cX1_waitsForItself 12 = .ok (.iload_n 2, 1) := by decide +kernel
theorem dX1_waitsForItself_13 : decode cX1_waitsForItself 13 = .ok (.ifCond .lt 11, 3) := by decide +kernel
theorem dX1_waitsForItself_16 : decode cX1_waitsForItself 16 = .ok (.iload_n 2, 1) := by decide +kernel
theorem dX1_waitsForItself_17 : decode cX1_waitsForItself 17 = .ok (.aload_n 0, 1) := by decide +kernel
theorem dX1_waitsForItself_18 : decode cX1_waitsForItself 18 = .ok (.getfield 59, 3) := by decide +kernel
theorem dX1_waitsForItself_21 : decode cX1_waitsForItself 21 = .ok (.if_icmp .lt 5, 3) := by decide +kernel
theorem dX1_waitsForItself_24 : decode cX1_waitsForItself 24 = .ok (.iconst 0, 1) := by decide +kernel
theorem dX1_waitsForItself_25 : decode cX1_waitsForItself 25 = .ok (.ireturn, 1) := by decide +kernel
theorem dX1_waitsForItself_26 : decode cX1_waitsForItself 26 = .ok (.aload_n 0, 1) := by decide +kernel
theorem dX1_waitsForItself_27 : decode cX1_waitsForItself 27 = .ok (.getfield 29, 3) := by decide +kernel
theorem dX1_waitsForItself_30 : decode cX1_waitsForItself 30 = .ok (.iload_n 2, 1) := by decide +kernel
theorem dX1_waitsForItself_31 : decode cX1_waitsForItself 31 = .ok (.aaload, 1) := by decide +kernel
theorem dX1_waitsForItself_32 : decode cX1_waitsForItself 32 = .ok (.getfield 85, 3) := by decide +kernel
theorem dX1_waitsForItself_35 : decode cX1_waitsForItself 35 = .ok (.istore_n 2, 1) := by decide +kernel
theorem dX1_waitsForItself_36 : decode cX1_waitsForItself 36 = .ok (.iload_n 2, 1) := by decide +kernel
theorem dX1_waitsForItself_37 : decode cX1_waitsForItself 37 = .ok (.iload_n 1, 1) := by decide +kernel
theorem dX1_waitsForItself_38 : decode cX1_waitsForItself 38 = .ok (.if_icmp .ne 5, 3) := by decide +kernel
theorem dX1_waitsForItself_41 : decode cX1_waitsForItself 41 = .ok (.iconst 1, 1) := by decide +kernel
theorem dX1_waitsForItself_42 : decode cX1_waitsForItself 42 = .ok (.ireturn, 1) := by decide +kernel
theorem dX1_waitsForItself_43 : decode cX1_waitsForItself 43 = .ok (.iinc 3 1, 3) := by decide +kernel
theorem dX1_waitsForItself_46 : decode cX1_waitsForItself 46 = .ok (.goto (-42), 3) := by decide +kernel
theorem dX1_waitsForItself_49 : decode cX1_waitsForItself 49 = .ok (.iconst 0, 1) := by decide +kernel
theorem dX1_waitsForItself_50 : decode cX1_waitsForItself 50 = .ok (.ireturn, 1) := by decide +kernel
theorem dX1_tillOrNone_0 : decode cX1_tillOrNone 0 = .ok (.aload_n 0, 1) := by decide +kernel
theorem dX1_tillOrNone_1 : decode cX1_tillOrNone 1 = .ok (.getfield 68, 3) := by decide +kernel
theorem dX1_tillOrNone_4 : decode cX1_tillOrNone 4 = .ok (.iload_n 1, 1) := by decide +kernel
theorem dX1_tillOrNone_5 : decode cX1_tillOrNone 5 = .ok (.if_icmp .ge 7, 3) := by decide +kernel
theorem dX1_tillOrNone_8 : decode cX1_tillOrNone 8 = .ok (.iload_n 1, 1) := by decide +kernel
theorem dX1_tillOrNone_9 : decode cX1_tillOrNone 9 = .ok (.goto 4, 3) := by decide +kernel
theorem dX1_tillOrNone_12 : decode cX1_tillOrNone 12 = .ok (.iconst (-1), 1) := by decide +kernel
theorem dX1_tillOrNone_13 : decode cX1_tillOrNone 13 = .ok (.ireturn, 1) := by decide +kernel
theorem dX1_blockUnder_0 : decode cX1_blockUnder 0 = .ok (.aload_n 1, 1) := by decide +kernel
theorem dX1_blockUnder_1 : decode cX1_blockUnder 1 = .ok (.getfield 91, 3) := by decide +kernel
theorem dX1_blockUnder_4 : decode cX1_blockUnder 4 = .ok (.ifCond .lt 18, 3) := by decide +kernel
theorem dX1_blockUnder_7 : decode cX1_blockUnder 7 = .ok (.aload_n 1, 1) := by decide +kernel
theorem dX1_blockUnder_8 : decode cX1_blockUnder 8 = .ok (.getfield 91, 3) := by decide +kernel
theorem dX1_blockUnder_11 : decode cX1_blockUnder 11 = .ok (.aload_n 0, 1) := by decide +kernel
theorem dX1_blockUnder_12 : decode cX1_blockUnder 12 = .ok (.getfield 53, 3) := by decide +kernel
theorem dX1_blockUnder_15 : decode cX1_blockUnder 15 = .ok (.if_icmp .ge 7, 3) := by decide +kernel
theorem dX1_blockUnder_18 : decode cX1_blockUnder 18 = .ok (.iconst 1, 1) := by decide +kernel
theorem dX1_blockUnder_19 : decode cX1_blockUnder 19 = .ok (.goto 4, 3) := by decide +kernel
theorem dX1_blockUnder_22 : decode cX1_blockUnder 22 = .ok (.iconst 0, 1) := by decide +kernel
theorem dX1_blockUnder_23 : decode cX1_blockUnder 23 = .ok (.istore_n 2, 1) := by decide +kernel
theorem dX1_blockUnder_24 : decode cX1_blockUnder 24 = .ok (.iload_n 2, 1) := by decide +kernel
theorem dX1_blockUnder_25 : decode cX1_blockUnder 25 = .ok (.ifCond .eq 22, 3) := by decide +kernel
theorem dX1_blockUnder_28 : decode cX1_blockUnder 28 = .ok (.aload_n 0, 1) := by decide +kernel
theorem dX1_blockUnder_29 : decode cX1_blockUnder 29 = .ok (.getfield 23, 3) := by decide +kernel
theorem dX1_blockUnder_32 : decode cX1_blockUnder 32 = .ok (.aload_n 1, 1) := by decide +kernel
theorem dX1_blockUnder_33 : decode cX1_blockUnder 33 = .ok (.getfield 91, 3) := by decide +kernel
theorem dX1_blockUnder_36 : decode cX1_blockUnder 36 = .ok (.aaload, 1) := by decide +kernel
theorem dX1_blockUnder_37 : decode cX1_blockUnder 37 = .ok (.aload_n 1, 1) := by decide +kernel
theorem dX1_blockUnder_38 : decode cX1_blockUnder 38 = .ok (.getfield 94, 3) := by decide +kernel
theorem dX1_blockUnder_41 : decode cX1_blockUnder 41 = .ok (.invokevirtual 103, 3) := by decide +kernel
theorem dX1_blockUnder_44 : decode cX1_blockUnder 44 = .ok (.goto 4, 3) := by decide +kernel
theorem dX1_blockUnder_47 : decode cX1_blockUnder 47 = .ok (.iconst (-1), 1) := by decide +kernel
theorem dX1_blockUnder_48 : decode cX1_blockUnder 48 = .ok (.ireturn, 1) := by decide +kernel
theorem dX1_lengthOf_0 : decode cX1_lengthOf 0 = .ok (.iconst 0, 1) := by decide +kernel
theorem dX1_lengthOf_1 : decode cX1_lengthOf 1 = .ok (.istore_n 2, 1) := by decide +kernel
theorem dX1_lengthOf_2 : decode cX1_lengthOf 2 = .ok (.iconst 0, 1) := by decide +kernel
theorem dX1_lengthOf_3 : decode cX1_lengthOf 3 = .ok (.istore_n 3, 1) := by decide +kernel
theorem dX1_lengthOf_4 : decode cX1_lengthOf 4 = .ok (.iload_n 3, 1) := by decide +kernel
theorem dX1_lengthOf_5 : decode cX1_lengthOf 5 = .ok (.aload_n 1, 1) := by decide +kernel
theorem dX1_lengthOf_6 : decode cX1_lengthOf 6 = .ok (.getfield 97, 3) := by decide +kernel
theorem dX1_lengthOf_9 : decode cX1_lengthOf 9 = .ok (.if_icmp .ge 43, 3) := by decide +kernel
theorem dX1_lengthOf_12 : decode cX1_lengthOf 12 = .ok (.aload_n 1, 1) := by decide +kernel
theorem dX1_lengthOf_13 : decode cX1_lengthOf 13 = .ok (.iload_n 3, 1) := by decide +kernel
theorem dX1_lengthOf_14 : decode cX1_lengthOf 14 = .ok (.invokevirtual 103, 3) := by decide +kernel
theorem dX1_lengthOf_17 : decode cX1_lengthOf 17 = .ok (.istore 4, 2) := by decide +kernel
theorem dX1_lengthOf_19 : decode cX1_lengthOf 19 = .ok (.iload 4, 2) := by decide +kernel
theorem dX1_lengthOf_21 : decode cX1_lengthOf 21 = .ok (.ifCond .lt 25, 3) := by decide +kernel
theorem dX1_lengthOf_24 : decode cX1_lengthOf 24 = .ok (.iload 4, 2) := by decide +kernel
theorem dX1_lengthOf_26 : decode cX1_lengthOf 26 = .ok (.aload_n 0, 1) := by decide +kernel
theorem dX1_lengthOf_27 : decode cX1_lengthOf 27 = .ok (.getfield 46, 3) := by decide +kernel
theorem dX1_lengthOf_30 : decode cX1_lengthOf 30 = .ok (.if_icmp .ge 16, 3) := by decide +kernel
theorem dX1_lengthOf_33 : decode cX1_lengthOf 33 = .ok (.iload_n 2, 1) := by decide +kernel
theorem dX1_lengthOf_34 : decode cX1_lengthOf 34 = .ok (.aload_n 0, 1) := by decide +kernel
theorem dX1_lengthOf_35 : decode cX1_lengthOf 35 = .ok (.getfield 17, 3) := by decide +kernel
theorem dX1_lengthOf_38 : decode cX1_lengthOf 38 = .ok (.iload 4, 2) := by decide +kernel
theorem dX1_lengthOf_40 : decode cX1_lengthOf 40 = .ok (.aaload, 1) := by decide +kernel
theorem dX1_lengthOf_41 : decode cX1_lengthOf 41 = .ok (.getfield 150, 3) := by decide +kernel
theorem dX1_lengthOf_44 : decode cX1_lengthOf 44 = .ok (.iadd, 1) := by decide +kernel
theorem dX1_lengthOf_45 : decode cX1_lengthOf 45 = .ok (.istore_n 2, 1) := by decide +kernel
theorem dX1_lengthOf_46 : decode cX1_lengthOf 46 = .ok (.iinc 3 1, 3) := by decide +kernel
theorem dX1_lengthOf_49 : decode cX1_lengthOf 49 = .ok (.goto (-45), 3) := by decide +kernel
theorem dX1_lengthOf_52 : decode cX1_lengthOf 52 = .ok (.iload_n 2, 1) := by decide +kernel
theorem dX1_lengthOf_53 : decode cX1_lengthOf 53 = .ok (.ireturn, 1) := by decide +kernel
theorem dX1_countAt_0 : decode cX1_countAt 0 = .ok (.iconst 0, 1) := by decide +kernel
theorem dX1_countAt_1 : decode cX1_countAt 1 = .ok (.istore_n 2, 1) := by decide +kernel
theorem dX1_countAt_2 : decode cX1_countAt 2 = .ok (.iconst 0, 1) := by decide +kernel
theorem dX1_countAt_3 : decode cX1_countAt 3 = .ok (.istore_n 3, 1) := by decide +kernel
theorem dX1_countAt_4 : decode cX1_countAt 4 = .ok (.iload_n 3, 1) := by decide +kernel
theorem dX1_countAt_5 : decode cX1_countAt 5 = .ok (.aload_n 0, 1) := by decide +kernel
theorem dX1_countAt_6 : decode cX1_countAt 6 = .ok (.getfield 59, 3) := by decide +kernel
theorem dX1_countAt_9 : decode cX1_countAt 9 = .ok (.if_icmp .ge 25, 3) := by decide +kernel
theorem dX1_countAt_12 : decode cX1_countAt 12 = .ok (.aload_n 0, 1) := by decide +kernel
theorem dX1_countAt_13 : decode cX1_countAt 13 = .ok (.getfield 29, 3) := by decide +kernel
theorem dX1_countAt_16 : decode cX1_countAt 16 = .ok (.iload_n 3, 1) := by decide +kernel
theorem dX1_countAt_17 : decode cX1_countAt 17 = .ok (.aaload, 1) := by decide +kernel
theorem dX1_countAt_18 : decode cX1_countAt 18 = .ok (.getfield 140, 3) := by decide +kernel
theorem dX1_countAt_21 : decode cX1_countAt 21 = .ok (.iload_n 1, 1) := by decide +kernel
theorem dX1_countAt_22 : decode cX1_countAt 22 = .ok (.if_icmp .ne 6, 3) := by decide +kernel
theorem dX1_countAt_25 : decode cX1_countAt 25 = .ok (.iinc 2 1, 3) := by decide +kernel
theorem dX1_countAt_28 : decode cX1_countAt 28 = .ok (.iinc 3 1, 3) := by decide +kernel
theorem dX1_countAt_31 : decode cX1_countAt 31 = .ok (.goto (-27), 3) := by decide +kernel
theorem dX1_countAt_34 : decode cX1_countAt 34 = .ok (.iload_n 2, 1) := by decide +kernel
theorem dX1_countAt_35 : decode cX1_countAt 35 = .ok (.ireturn, 1) := by decide +kernel
theorem dX1_countOnTheWayTo_0 : decode cX1_countOnTheWayTo 0 = .ok (.iconst 0, 1) := by decide +kernel
theorem dX1_countOnTheWayTo_1 : decode cX1_countOnTheWayTo 1 = .ok (.istore_n 2, 1) := by decide +kernel
theorem dX1_countOnTheWayTo_2 : decode cX1_countOnTheWayTo 2 = .ok (.iconst 0, 1) := by decide +kernel
theorem dX1_countOnTheWayTo_3 : decode cX1_countOnTheWayTo 3 = .ok (.istore_n 3, 1) := by decide +kernel
theorem dX1_countOnTheWayTo_4 : decode cX1_countOnTheWayTo 4 = .ok (.iload_n 3, 1) := by decide +kernel
theorem dX1_countOnTheWayTo_5 : decode cX1_countOnTheWayTo 5 = .ok (.aload_n 0, 1) := by decide +kernel
theorem dX1_countOnTheWayTo_6 : decode cX1_countOnTheWayTo 6 = .ok (.getfield 59, 3) := by decide +kernel
theorem dX1_countOnTheWayTo_9 : decode cX1_countOnTheWayTo 9 = .ok (.if_icmp .ge 51, 3) := by decide +kernel
theorem dX1_countOnTheWayTo_12 : decode cX1_countOnTheWayTo 12 = .ok (.aload_n 0, 1) := by decide +kernel
theorem dX1_countOnTheWayTo_13 : decode cX1_countOnTheWayTo 13 = .ok (.getfield 29, 3) := by decide +kernel
theorem dX1_countOnTheWayTo_16 : decode cX1_countOnTheWayTo 16 = .ok (.iload_n 3, 1) := by decide +kernel
theorem dX1_countOnTheWayTo_17 : decode cX1_countOnTheWayTo 17 = .ok (.aaload, 1) := by decide +kernel
theorem dX1_countOnTheWayTo_18 : decode cX1_countOnTheWayTo 18 = .ok (.getfield 91, 3) := by decide +kernel
theorem dX1_countOnTheWayTo_21 : decode cX1_countOnTheWayTo 21 = .ok (.istore 4, 2) := by decide +kernel
theorem dX1_countOnTheWayTo_23 : decode cX1_countOnTheWayTo 23 = .ok (.iload 4, 2) := by decide +kernel
theorem dX1_countOnTheWayTo_25 : decode cX1_countOnTheWayTo 25 = .ok (.ifCond .lt 29, 3) := by decide +kernel
theorem dX1_countOnTheWayTo_28 : decode cX1_countOnTheWayTo 28 = .ok (.iload 4, 2) := by decide +kernel
theorem dX1_countOnTheWayTo_30 : decode cX1_countOnTheWayTo 30 = .ok (.aload_n 0, 1) := by decide +kernel
theorem dX1_countOnTheWayTo_31 : decode cX1_countOnTheWayTo 31 = .ok (.getfield 53, 3) := by decide +kernel
theorem dX1_countOnTheWayTo_34 : decode cX1_countOnTheWayTo 34 = .ok (.if_icmp .ge 20, 3) := by decide +kernel
theorem dX1_countOnTheWayTo_37 : decode cX1_countOnTheWayTo 37 = .ok (.aload_n 0, 1) := by decide +kernel
theorem dX1_countOnTheWayTo_38 : decode cX1_countOnTheWayTo 38 = .ok (.getfield 23, 3) := by decide +kernel
theorem dX1_countOnTheWayTo_41 : decode cX1_countOnTheWayTo 41 = .ok (.iload 4, 2) := by decide +kernel
theorem dX1_countOnTheWayTo_43 : decode cX1_countOnTheWayTo 43 = .ok (.aaload, 1) := by decide +kernel
theorem dX1_countOnTheWayTo_44 : decode cX1_countOnTheWayTo 44 = .ok (.getfield 219, 3) := by decide +kernel
theorem dX1_countOnTheWayTo_47 : decode cX1_countOnTheWayTo 47 = .ok (.iload_n 1, 1) := by decide +kernel
theorem dX1_countOnTheWayTo_48 : decode cX1_countOnTheWayTo 48 = .ok (.if_icmp .ne 6, 3) := by decide +kernel
theorem dX1_countOnTheWayTo_51 : decode cX1_countOnTheWayTo 51 = .ok (.iinc 2 1, 3) := by decide +kernel
theorem dX1_countOnTheWayTo_54 : decode cX1_countOnTheWayTo 54 = .ok (.iinc 3 1, 3) := by decide +kernel
theorem dX1_countOnTheWayTo_57 : decode cX1_countOnTheWayTo 57 = .ok (.goto (-53), 3) := by decide +kernel
theorem dX1_countOnTheWayTo_60 : decode cX1_countOnTheWayTo 60 = .ok (.iload_n 2, 1) := by decide +kernel
theorem dX1_countOnTheWayTo_61 : decode cX1_countOnTheWayTo 61 = .ok (.ireturn, 1) := by decide +kernel
theorem dX1_countDone_0 : decode cX1_countDone 0 = .ok (.iconst 0, 1) := by decide +kernel
theorem dX1_countDone_1 : decode cX1_countDone 1 = .ok (.istore_n 1, 1) := by decide +kernel
theorem dX1_countDone_2 : decode cX1_countDone 2 = .ok (.iconst 0, 1) := by decide +kernel
theorem dX1_countDone_3 : decode cX1_countDone 3 = .ok (.istore_n 2, 1) := by decide +kernel
theorem dX1_countDone_4 : decode cX1_countDone 4 = .ok (.iload_n 2, 1) := by decide +kernel
theorem dX1_countDone_5 : decode cX1_countDone 5 = .ok (.aload_n 0, 1) := by decide +kernel
theorem dX1_countDone_6 : decode cX1_countDone 6 = .ok (.getfield 59, 3) := by decide +kernel
theorem dX1_countDone_9 : decode cX1_countDone 9 = .ok (.if_icmp .ge 24, 3) := by decide +kernel
theorem dX1_countDone_12 : decode cX1_countDone 12 = .ok (.aload_n 0, 1) := by decide +kernel
theorem dX1_countDone_13 : decode cX1_countDone 13 = .ok (.getfield 29, 3) := by decide +kernel
theorem dX1_countDone_16 : decode cX1_countDone 16 = .ok (.iload_n 2, 1) := by decide +kernel
theorem dX1_countDone_17 : decode cX1_countDone 17 = .ok (.aaload, 1) := by decide +kernel
theorem dX1_countDone_18 : decode cX1_countDone 18 = .ok (.invokevirtual 235, 3) := by decide +kernel
theorem dX1_countDone_21 : decode cX1_countDone 21 = .ok (.ifCond .eq 6, 3) := by decide +kernel
theorem dX1_countDone_24 : decode cX1_countDone 24 = .ok (.iinc 1 1, 3) := by decide +kernel
theorem dX1_countDone_27 : decode cX1_countDone 27 = .ok (.iinc 2 1, 3) := by decide +kernel
theorem dX1_countDone_30 : decode cX1_countDone 30 = .ok (.goto (-26), 3) := by decide +kernel
theorem dX1_countDone_33 : decode cX1_countDone 33 = .ok (.iload_n 1, 1) := by decide +kernel
theorem dX1_countDone_34 : decode cX1_countDone 34 = .ok (.ireturn, 1) := by decide +kernel
theorem dX1_countAtStations_0 : decode cX1_countAtStations 0 = .ok (.iconst 0, 1) := by decide +kernel
theorem dX1_countAtStations_1 : decode cX1_countAtStations 1 = .ok (.istore_n 1, 1) := by decide +kernel
theorem dX1_countAtStations_2 : decode cX1_countAtStations 2 = .ok (.iconst 0, 1) := by decide +kernel
theorem dX1_countAtStations_3 : decode cX1_countAtStations 3 = .ok (.istore_n 2, 1) := by decide +kernel
theorem dX1_countAtStations_4 : decode cX1_countAtStations 4 = .ok (.iload_n 2, 1) := by decide +kernel
theorem dX1_countAtStations_5 : decode cX1_countAtStations 5 = .ok (.aload_n 0, 1) := by decide +kernel
theorem dX1_countAtStations_6 : decode cX1_countAtStations 6 = .ok (.getfield 59, 3) := by decide +kernel
theorem dX1_countAtStations_9 : decode cX1_countAtStations 9 = .ok (.if_icmp .ge 24, 3) := by decide +kernel
theorem dX1_countAtStations_12 : decode cX1_countAtStations 12 = .ok (.aload_n 0, 1) := by decide +kernel
theorem dX1_countAtStations_13 : decode cX1_countAtStations 13 = .ok (.getfield 29, 3) := by decide +kernel
theorem dX1_countAtStations_16 : decode cX1_countAtStations 16 = .ok (.iload_n 2, 1) := by decide +kernel
theorem dX1_countAtStations_17 : decode cX1_countAtStations 17 = .ok (.aaload, 1) := by decide +kernel
theorem dX1_countAtStations_18 : decode cX1_countAtStations 18 = .ok (.invokevirtual 213, 3) := by decide +kernel
theorem dX1_countAtStations_21 : decode cX1_countAtStations 21 = .ok (.ifCond .eq 6, 3) := by decide +kernel
theorem dX1_countAtStations_24 : decode cX1_countAtStations 24 = .ok (.iinc 1 1, 3) := by decide +kernel
theorem dX1_countAtStations_27 : decode cX1_countAtStations 27 = .ok (.iinc 2 1, 3) := by decide +kernel
theorem dX1_countAtStations_30 : decode cX1_countAtStations 30 = .ok (.goto (-26), 3) := by decide +kernel
theorem dX1_countAtStations_33 : decode cX1_countAtStations 33 = .ok (.iload_n 1, 1) := by decide +kernel
theorem dX1_countAtStations_34 : decode cX1_countAtStations 34 = .ok (.ireturn, 1) := by decide +kernel
theorem dX1_countOnBlocks_0 : decode cX1_countOnBlocks 0 = .ok (.iconst 0, 1) := by decide +kernel
theorem dX1_countOnBlocks_1 : decode cX1_countOnBlocks 1 = .ok (.istore_n 1, 1) := by decide +kernel
theorem dX1_countOnBlocks_2 : decode cX1_countOnBlocks 2 = .ok (.iconst 0, 1) := by decide +kernel
theorem dX1_countOnBlocks_3 : decode cX1_countOnBlocks 3 = .ok (.istore_n 2, 1) := by decide +kernel
theorem dX1_countOnBlocks_4 : decode cX1_countOnBlocks 4 = .ok (.iload_n 2, 1) := by decide +kernel
theorem dX1_countOnBlocks_5 : decode cX1_countOnBlocks 5 = .ok (.aload_n 0, 1) := by decide +kernel
theorem dX1_countOnBlocks_6 : decode cX1_countOnBlocks 6 = .ok (.getfield 59, 3) := by decide +kernel
theorem dX1_countOnBlocks_9 : decode cX1_countOnBlocks 9 = .ok (.if_icmp .ge 24, 3) := by decide +kernel
theorem dX1_countOnBlocks_12 : decode cX1_countOnBlocks 12 = .ok (.aload_n 0, 1) := by decide +kernel
theorem dX1_countOnBlocks_13 : decode cX1_countOnBlocks 13 = .ok (.getfield 29, 3) := by decide +kernel
theorem dX1_countOnBlocks_16 : decode cX1_countOnBlocks 16 = .ok (.iload_n 2, 1) := by decide +kernel
theorem dX1_countOnBlocks_17 : decode cX1_countOnBlocks 17 = .ok (.aaload, 1) := by decide +kernel
theorem dX1_countOnBlocks_18 : decode cX1_countOnBlocks 18 = .ok (.invokevirtual 74, 3) := by decide +kernel
theorem dX1_countOnBlocks_21 : decode cX1_countOnBlocks 21 = .ok (.ifCond .eq 6, 3) := by decide +kernel
theorem dX1_countOnBlocks_24 : decode cX1_countOnBlocks 24 = .ok (.iinc 1 1, 3) := by decide +kernel
theorem dX1_countOnBlocks_27 : decode cX1_countOnBlocks 27 = .ok (.iinc 2 1, 3) := by decide +kernel
theorem dX1_countOnBlocks_30 : decode cX1_countOnBlocks 30 = .ok (.goto (-26), 3) := by decide +kernel
theorem dX1_countOnBlocks_33 : decode cX1_countOnBlocks 33 = .ok (.iload_n 1, 1) := by decide +kernel
theorem dX1_countOnBlocks_34 : decode cX1_countOnBlocks 34 = .ok (.ireturn, 1) := by decide +kernel
theorem dX1_countStuck_0 : decode cX1_countStuck 0 = .ok (.iconst 0, 1) := by decide +kernel
theorem dX1_countStuck_1 : decode cX1_countStuck 1 = .ok (.istore_n 1, 1) := by decide +kernel
theorem dX1_countStuck_2 : decode cX1_countStuck 2 = .ok (.iconst 0, 1) := by decide +kernel
theorem dX1_countStuck_3 : decode cX1_countStuck 3 = .ok (.istore_n 2, 1) := by decide +kernel
theorem dX1_countStuck_4 : decode cX1_countStuck 4 = .ok (.iload_n 2, 1) := by decide +kernel
theorem dX1_countStuck_5 : decode cX1_countStuck 5 = .ok (.aload_n 0, 1) := by decide +kernel
theorem dX1_countStuck_6 : decode cX1_countStuck 6 = .ok (.getfield 59, 3) := by decide +kernel
theorem dX1_countStuck_9 : decode cX1_countStuck 9 = .ok (.if_icmp .ge 20, 3) := by decide +kernel
theorem dX1_countStuck_12 : decode cX1_countStuck 12 = .ok (.aload_n 0, 1) := by decide +kernel
theorem dX1_countStuck_13 : decode cX1_countStuck 13 = .ok (.iload_n 2, 1) := by decide +kernel
theorem dX1_countStuck_14 : decode cX1_countStuck 14 = .ok (.invokevirtual 238, 3) := by decide +kernel
theorem dX1_countStuck_17 : decode cX1_countStuck 17 = .ok (.ifCond .eq 6, 3) := by decide +kernel
theorem dX1_countStuck_20 : decode cX1_countStuck 20 = .ok (.iinc 1 1, 3) := by decide +kernel
theorem dX1_countStuck_23 : decode cX1_countStuck 23 = .ok (.iinc 2 1, 3) := by decide +kernel
theorem dX1_countStuck_26 : decode cX1_countStuck 26 = .ok (.goto (-22), 3) := by decide +kernel
theorem dX1_countStuck_29 : decode cX1_countStuck 29 = .ok (.iload_n 1, 1) := by decide +kernel
theorem dX1_countStuck_30 : decode cX1_countStuck 30 = .ok (.ireturn, 1) := by decide +kernel
theorem dX2_init_0 : decode cX2_init 0 = .ok (.aload_n 0, 1) := by decide +kernel
theorem dX2_init_1 : decode cX2_init 1 = .ok (.invokespecial 3, 3) := by decide +kernel
theorem dX2_init_4 : decode cX2_init 4 = .ok (.aload_n 0, 1) := by decide +kernel
theorem dX2_init_5 : decode cX2_init 5 = .ok (.iconst 5, 1) := by decide +kernel
theorem dX2_init_6 : decode cX2_init 6 = .ok (.newarray .int, 2) := by decide +kernel
theorem dX2_init_8 : decode cX2_init 8 = .ok (.putfield 9, 3) := by decide +kernel
theorem dX2_init_11 : decode cX2_init 11 = .ok (.return_, 1) := by decide +kernel
theorem dX2_lay_0 : decode cX2_lay 0 = .ok (.aload_n 0, 1) := by decide +kernel
theorem dX2_lay_1 : decode cX2_lay 1 = .ok (.iload_n 1, 1) := by decide +kernel
theorem dX2_lay_2 : decode cX2_lay 2 = .ok (.putfield 15, 3) := by decide +kernel
theorem dX2_lay_5 : decode cX2_lay 5 = .ok (.aload_n 0, 1) := by decide +kernel
theorem dX2_lay_6 : decode cX2_lay 6 = .ok (.iload_n 2, 1) := by decide +kernel
theorem dX2_lay_7 : decode cX2_lay 7 = .ok (.putfield 19, 3) := by decide +kernel
theorem dX2_lay_10 : decode cX2_lay 10 = .ok (.aload_n 0, 1) := by decide +kernel
theorem dX2_lay_11 : decode cX2_lay 11 = .ok (.iload_n 3, 1) := by decide +kernel
theorem dX2_lay_12 : decode cX2_lay 12 = .ok (.putfield 22, 3) := by decide +kernel
theorem dX2_lay_15 : decode cX2_lay 15 = .ok (.aload_n 0, 1) := by decide +kernel
theorem dX2_lay_16 : decode cX2_lay 16 = .ok (.iconst 0, 1) := by decide +kernel
theorem dX2_lay_17 : decode cX2_lay 17 = .ok (.putfield 26, 3) := by decide +kernel
theorem dX2_lay_20 : decode cX2_lay 20 = .ok (.return_, 1) := by decide +kernel
theorem dX2_takeFrom_0 : decode cX2_takeFrom 0 = .ok (.aload_n 0, 1) := by decide +kernel
theorem dX2_takeFrom_1 : decode cX2_takeFrom 1 = .ok (.aload_n 1, 1) := by decide +kernel
theorem dX2_takeFrom_2 : decode cX2_takeFrom 2 = .ok (.getfield 15, 3) := by decide +kernel
theorem dX2_takeFrom_5 : decode cX2_takeFrom 5 = .ok (.aload_n 1, 1) := by decide +kernel
theorem dX2_takeFrom_6 : decode cX2_takeFrom 6 = .ok (.getfield 19, 3) := by decide +kernel
theorem dX2_takeFrom_9 : decode cX2_takeFrom 9 = .ok (.aload_n 1, 1) := by decide +kernel
theorem dX2_takeFrom_10 : decode cX2_takeFrom 10 = .ok (.getfield 22, 3) := by decide +kernel
theorem dX2_takeFrom_13 : decode cX2_takeFrom 13 = .ok (.invokevirtual 29, 3) := by decide +kernel
theorem dX2_takeFrom_16 : decode cX2_takeFrom 16 = .ok (.iconst 0, 1) := by decide +kernel
theorem dX2_takeFrom_17 : decode cX2_takeFrom 17 = .ok (.istore_n 2, 1) := by decide +kernel
theorem dX2_takeFrom_18 : decode cX2_takeFrom 18 = .ok (.iload_n 2, 1) := by decide +kernel
theorem dX2_takeFrom_19 : decode cX2_takeFrom 19 = .ok (.aload_n 1, 1) := by decide +kernel
theorem dX2_takeFrom_20 : decode cX2_takeFrom 20 = .ok (.getfield 26, 3) := by decide +kernel
theorem dX2_takeFrom_23 : decode cX2_takeFrom 23 = .ok (.if_icmp .ge 18, 3) := by decide +kernel
theorem dX2_takeFrom_26 : decode cX2_takeFrom 26 = .ok (.aload_n 0, 1) := by decide +kernel
theorem dX2_takeFrom_27 : decode cX2_takeFrom 27 = .ok (.aload_n 1, 1) := by decide +kernel
theorem dX2_takeFrom_28 : decode cX2_takeFrom 28 = .ok (.iload_n 2, 1) := by decide +kernel
theorem dX2_takeFrom_29 : decode cX2_takeFrom 29 = .ok (.invokevirtual 33, 3) := by decide +kernel
theorem dX2_takeFrom_32 : decode cX2_takeFrom 32 = .ok (.invokevirtual 37, 3) := by decide +kernel
theorem dX2_takeFrom_35 : decode cX2_takeFrom 35 = .ok (.iinc 2 1, 3) := by decide +kernel
theorem dX2_takeFrom_38 : decode cX2_takeFrom 38 = .ok (.goto (-20), 3) := by decide +kernel
theorem dX2_takeFrom_41 : decode cX2_takeFrom 41 = .ok (.return_, 1) := by decide +kernel
theorem dX2_addBlock_0 : decode cX2_addBlock 0 = .ok (.aload_n 0, 1) := by decide +kernel
theorem dX2_addBlock_1 : decode cX2_addBlock 1 = .ok (.getfield 26, 3) := by decide +kernel
theorem dX2_addBlock_4 : decode cX2_addBlock 4 = .ok (.ifCond .lt 35, 3) := by decide +kernel
theorem dX2_addBlock_7 : decode cX2_addBlock 7 = .ok (.aload_n 0, 1) := by decide +kernel
theorem dX2_addBlock_8 : decode cX2_addBlock 8 = .ok (.getfield 26, 3) := by decide +kernel
theorem dX2_addBlock_11 : decode cX2_addBlock 11 = .ok (.aload_n 0, 1) := by decide +kernel
theorem dX2_addBlock_12 : decode cX2_addBlock 12 = .ok (.getfield 9, 3) := by decide +kernel
theorem dX2_addBlock_15 : decode cX2_addBlock 15 = .ok (.arraylength, 1) := by decide +kernel
theorem dX2_addBlock_16 : decode cX2_addBlock 16 = .ok (.if_icmp .ge 23, 3) := by decide +kernel
theorem dX2_addBlock_19 : decode cX2_addBlock 19 = .ok (.aload_n 0, 1) := by decide +kernel
theorem dX2_addBlock_20 : decode cX2_addBlock 20 = .ok (.getfield 9, 3) := by decide +kernel
theorem dX2_addBlock_23 : decode cX2_addBlock 23 = .ok (.aload_n 0, 1) := by decide +kernel
theorem dX2_addBlock_24 : decode cX2_addBlock 24 = .ok (.getfield 26, 3) := by decide +kernel
theorem dX2_addBlock_27 : decode cX2_addBlock 27 = .ok (.iload_n 1, 1) := by decide +kernel
theorem dX2_addBlock_28 : decode cX2_addBlock 28 = .ok (.iastore, 1) := by decide +kernel
theorem dX2_addBlock_29 : decode cX2_addBlock 29 = .ok (.aload_n 0, 1) := by decide +kernel
theorem dX2_addBlock_30 : decode cX2_addBlock 30 = .ok (.dup, 1) := by decide +kernel
theorem dX2_addBlock_31 : decode cX2_addBlock 31 = .ok (.getfield 26, 3) := by decide +kernel
theorem dX2_addBlock_34 : decode cX2_addBlock 34 = .ok (.iconst 1, 1) := by decide +kernel
theorem dX2_addBlock_35 : decode cX2_addBlock 35 = .ok (.iadd, 1) := by decide +kernel
theorem dX2_addBlock_36 : decode cX2_addBlock 36 = .ok (.putfield 26, 3) := by decide +kernel
theorem dX2_addBlock_39 : decode cX2_addBlock 39 = .ok (.return_, 1) := by decide +kernel
theorem dX2_blockAt_0 : decode cX2_blockAt 0 = .ok (.iload_n 1, 1) := by decide +kernel
theorem dX2_blockAt_1 : decode cX2_blockAt 1 = .ok (.ifCond .lt 21, 3) := by decide +kernel
theorem dX2_blockAt_4 : decode cX2_blockAt 4 = .ok (.iload_n 1, 1) := by decide +kernel
theorem dX2_blockAt_5 : decode cX2_blockAt 5 = .ok (.aload_n 0, 1) := by decide +kernel
theorem dX2_blockAt_6 : decode cX2_blockAt 6 = .ok (.getfield 9, 3) := by decide +kernel
theorem dX2_blockAt_9 : decode cX2_blockAt 9 = .ok (.arraylength, 1) := by decide +kernel
theorem dX2_blockAt_10 : decode cX2_blockAt 10 = .ok (.if_icmp .ge 12, 3) := by decide +kernel
theorem dX2_blockAt_13 : decode cX2_blockAt 13 = .ok (.aload_n 0, 1) := by decide +kernel
theorem dX2_blockAt_14 : decode cX2_blockAt 14 = .ok (.getfield 9, 3) := by decide +kernel
theorem dX2_blockAt_17 : decode cX2_blockAt 17 = .ok (.iload_n 1, 1) := by decide +kernel
theorem dX2_blockAt_18 : decode cX2_blockAt 18 = .ok (.iaload, 1) := by decide +kernel
theorem dX2_blockAt_19 : decode cX2_blockAt 19 = .ok (.goto 4, 3) := by decide +kernel
theorem dX2_blockAt_22 : decode cX2_blockAt 22 = .ok (.iconst (-1), 1) := by decide +kernel
theorem dX2_blockAt_23 : decode cX2_blockAt 23 = .ok (.ireturn, 1) := by decide +kernel
theorem dX2_hasBlock_0 : decode cX2_hasBlock 0 = .ok (.iconst 0, 1) := by decide +kernel
theorem dX2_hasBlock_1 : decode cX2_hasBlock 1 = .ok (.istore_n 2, 1) := by decide +kernel
theorem dX2_hasBlock_2 : decode cX2_hasBlock 2 = .ok (.iload_n 2, 1) := by decide +kernel
theorem dX2_hasBlock_3 : decode cX2_hasBlock 3 = .ok (.aload_n 0, 1) := by decide +kernel
theorem dX2_hasBlock_4 : decode cX2_hasBlock 4 = .ok (.getfield 26, 3) := by decide +kernel
theorem dX2_hasBlock_7 : decode cX2_hasBlock 7 = .ok (.if_icmp .ge 20, 3) := by decide +kernel
theorem dX2_hasBlock_10 : decode cX2_hasBlock 10 = .ok (.aload_n 0, 1) := by decide +kernel
theorem dX2_hasBlock_11 : decode cX2_hasBlock 11 = .ok (.iload_n 2, 1) := by decide +kernel
theorem dX2_hasBlock_12 : decode cX2_hasBlock 12 = .ok (.invokevirtual 33, 3) := by decide +kernel
theorem dX2_hasBlock_15 : decode cX2_hasBlock 15 = .ok (.iload_n 1, 1) := by decide +kernel
theorem dX2_hasBlock_16 : decode cX2_hasBlock 16 = .ok (.if_icmp .ne 5, 3) := by decide +kernel
theorem dX2_hasBlock_19 : decode cX2_hasBlock 19 = .ok (.iconst 1, 1) := by decide +kernel
theorem dX2_hasBlock_20 : decode cX2_hasBlock 20 = .ok (.ireturn, 1) := by decide +kernel
theorem dX2_hasBlock_21 : decode cX2_hasBlock 21 = .ok (.iinc 2 1, 3) := by decide +kernel
theorem dX2_hasBlock_24 : decode cX2_hasBlock 24 = .ok (.goto (-22), 3) := by decide +kernel
theorem dX2_hasBlock_27 : decode cX2_hasBlock 27 = .ok (.iconst 0, 1) := by decide +kernel
theorem dX2_hasBlock_28 : decode cX2_hasBlock 28 = .ok (.ireturn, 1) := by decide +kernel
theorem dX2_joins_0 : decode cX2_joins 0 = .ok (.aload_n 0, 1) := by decide +kernel
theorem dX2_joins_1 : decode cX2_joins 1 = .ok (.getfield 15, 3) := by decide +kernel
theorem dX2_joins_4 : decode cX2_joins 4 = .ok (.iload_n 1, 1) := by decide +kernel
theorem dX2_joins_5 : decode cX2_joins 5 = .ok (.if_icmp .ne 15, 3) := by decide +kernel
theorem dX2_joins_8 : decode cX2_joins 8 = .ok (.aload_n 0, 1) := by decide +kernel
theorem dX2_joins_9 : decode cX2_joins 9 = .ok (.getfield 19, 3) := by decide +kernel
theorem dX2_joins_12 : decode cX2_joins 12 = .ok (.iload_n 2, 1) := by decide +kernel
theorem dX2_joins_13 : decode cX2_joins 13 = .ok (.if_icmp .ne 7, 3) := by decide +kernel
theorem dX2_joins_16 : decode cX2_joins 16 = .ok (.iconst 1, 1) := by decide +kernel
theorem dX2_joins_17 : decode cX2_joins 17 = .ok (.goto 4, 3) := by decide +kernel
theorem dX2_joins_20 : decode cX2_joins 20 = .ok (.iconst 0, 1) := by decide +kernel
theorem dX2_joins_21 : decode cX2_joins 21 = .ok (.ireturn, 1) := by decide +kernel
theorem dX2_countToBeClear_0 : decode cX2_countToBeClear 0 = .ok (.aload_n 0, 1) := by decide +kernel
theorem dX2_countToBeClear_1 : decode cX2_countToBeClear 1 = .ok (.getfield 22, 3) := by decide +kernel
theorem dX2_countToBeClear_4 : decode cX2_countToBeClear 4 = .ok (.ifCond .eq 10, 3) := by decide +kernel
theorem dX2_countToBeClear_7 : decode cX2_countToBeClear 7 = .ok (.aload_n 0, 1) := by decide +kernel
theorem dX2_countToBeClear_8 : decode cX2_countToBeClear 8 = .ok (.getfield 26, 3) := by decide +kernel
theorem dX2_countToBeClear_11 : decode cX2_countToBeClear 11 = .ok (.goto 4, 3) := by decide +kernel
theorem dX2_countToBeClear_14 : decode cX2_countToBeClear 14 = .ok (.iconst 1, 1) := by decide +kernel
theorem dX2_countToBeClear_15 : decode cX2_countToBeClear 15 = .ok (.ireturn, 1) := by decide +kernel
theorem dX3_init_0 : decode cX3_init 0 = .ok (.aload_n 0, 1) := by decide +kernel
theorem dX3_init_1 : decode cX3_init 1 = .ok (.invokespecial 3, 3) := by decide +kernel
theorem dX3_init_4 : decode cX3_init 4 = .ok (.aload_n 0, 1) := by decide +kernel
theorem dX3_init_5 : decode cX3_init 5 = .ok (.bipush 8, 2) := by decide +kernel
theorem dX3_init_7 : decode cX3_init 7 = .ok (.newarray .int, 2) := by decide +kernel
theorem dX3_init_9 : decode cX3_init 9 = .ok (.putfield 9, 3) := by decide +kernel
theorem dX3_init_12 : decode cX3_init 12 = .ok (.aload_n 0, 1) := by decide +kernel
theorem dX3_init_13 : decode cX3_init 13 = .ok (.bipush 8, 2) := by decide +kernel
theorem dX3_init_15 : decode cX3_init 15 = .ok (.newarray .int, 2) := by decide +kernel
theorem dX3_init_17 : decode cX3_init 17 = .ok (.putfield 15, 3) := by decide +kernel
theorem dX3_init_20 : decode cX3_init 20 = .ok (.aload_n 0, 1) := by decide +kernel
theorem dX3_init_21 : decode cX3_init 21 = .ok (.iconst (-1), 1) := by decide +kernel
theorem dX3_init_22 : decode cX3_init 22 = .ok (.putfield 18, 3) := by decide +kernel
theorem dX3_init_25 : decode cX3_init 25 = .ok (.aload_n 0, 1) := by decide +kernel
theorem dX3_init_26 : decode cX3_init 26 = .ok (.iconst (-1), 1) := by decide +kernel
theorem dX3_init_27 : decode cX3_init 27 = .ok (.putfield 22, 3) := by decide +kernel
theorem dX3_init_30 : decode cX3_init 30 = .ok (.aload_n 0, 1) := by decide +kernel
theorem dX3_init_31 : decode cX3_init 31 = .ok (.iconst (-1), 1) := by decide +kernel
theorem dX3_init_32 : decode cX3_init 32 = .ok (.putfield 25, 3) := by decide +kernel
theorem dX3_init_35 : decode cX3_init 35 = .ok (.aload_n 0, 1) := by decide +kernel
theorem dX3_init_36 : decode cX3_init 36 = .ok (.bipush 8, 2) := by decide +kernel
theorem dX3_init_38 : decode cX3_init 38 = .ok (.newarray .int, 2) := by decide +kernel
theorem dX3_init_40 : decode cX3_init 40 = .ok (.putfield 28, 3) := by decide +kernel
theorem dX3_init_43 : decode cX3_init 43 = .ok (.return_, 1) := by decide +kernel
theorem dX3_takeFrom_0 : decode cX3_takeFrom 0 = .ok (.aload_n 0, 1) := by decide +kernel
theorem dX3_takeFrom_1 : decode cX3_takeFrom 1 = .ok (.aload_n 1, 1) := by decide +kernel
theorem dX3_takeFrom_2 : decode cX3_takeFrom 2 = .ok (.getfield 31, 3) := by decide +kernel
theorem dX3_takeFrom_5 : decode cX3_takeFrom 5 = .ok (.putfield 31, 3) := by decide +kernel
theorem dX3_takeFrom_8 : decode cX3_takeFrom 8 = .ok (.aload_n 0, 1) := by decide +kernel
theorem dX3_takeFrom_9 : decode cX3_takeFrom 9 = .ok (.aload_n 1, 1) := by decide +kernel
theorem dX3_takeFrom_10 : decode cX3_takeFrom 10 = .ok (.getfield 34, 3) := by decide +kernel
theorem dX3_takeFrom_13 : decode cX3_takeFrom 13 = .ok (.putfield 34, 3) := by decide +kernel
theorem dX3_takeFrom_16 : decode cX3_takeFrom 16 = .ok (.aload_n 0, 1) := by decide +kernel
theorem dX3_takeFrom_17 : decode cX3_takeFrom 17 = .ok (.aload_n 1, 1) := by decide +kernel
theorem dX3_takeFrom_18 : decode cX3_takeFrom 18 = .ok (.getfield 37, 3) := by decide +kernel
theorem dX3_takeFrom_21 : decode cX3_takeFrom 21 = .ok (.putfield 37, 3) := by decide +kernel
theorem dX3_takeFrom_24 : decode cX3_takeFrom 24 = .ok (.aload_n 1, 1) := by decide +kernel
theorem dX3_takeFrom_25 : decode cX3_takeFrom 25 = .ok (.getfield 9, 3) := by decide +kernel
theorem dX3_takeFrom_28 : decode cX3_takeFrom 28 = .ok (.iconst 0, 1) := by decide +kernel
theorem dX3_takeFrom_29 : decode cX3_takeFrom 29 = .ok (.aload_n 0, 1) := by decide +kernel
theorem dX3_takeFrom_30 : decode cX3_takeFrom 30 = .ok (.getfield 9, 3) := by decide +kernel
theorem dX3_takeFrom_33 : decode cX3_takeFrom 33 = .ok (.iconst 0, 1) := by decide +kernel
theorem dX3_takeFrom_34 : decode cX3_takeFrom 34 = .ok (.bipush 8, 2) := by decide +kernel
theorem dX3_takeFrom_36 : decode cX3_takeFrom 36 = .ok (.invokestatic 40, 3) := by decide +kernel
theorem dX3_takeFrom_39 : decode cX3_takeFrom 39 = .ok (.aload_n 1, 1) := by decide +kernel
theorem dX3_takeFrom_40 : decode cX3_takeFrom 40 = .ok (.getfield 15, 3) := by decide +kernel
theorem dX3_takeFrom_43 : decode cX3_takeFrom 43 = .ok (.iconst 0, 1) := by decide +kernel
theorem dX3_takeFrom_44 : decode cX3_takeFrom 44 = .ok (.aload_n 0, 1) := by decide +kernel
theorem dX3_takeFrom_45 : decode cX3_takeFrom 45 = .ok (.getfield 15, 3) := by decide +kernel
theorem dX3_takeFrom_48 : decode cX3_takeFrom 48 = .ok (.iconst 0, 1) := by decide +kernel
theorem dX3_takeFrom_49 : decode cX3_takeFrom 49 = .ok (.bipush 8, 2) := by decide +kernel
theorem dX3_takeFrom_51 : decode cX3_takeFrom 51 = .ok (.invokestatic 40, 3) := by decide +kernel
theorem dX3_takeFrom_54 : decode cX3_takeFrom 54 = .ok (.aload_n 0, 1) := by decide +kernel
theorem dX3_takeFrom_55 : decode cX3_takeFrom 55 = .ok (.aload_n 1, 1) := by decide +kernel
theorem dX3_takeFrom_56 : decode cX3_takeFrom 56 = .ok (.getfield 46, 3) := by decide +kernel
theorem dX3_takeFrom_59 : decode cX3_takeFrom 59 = .ok (.putfield 46, 3) := by decide +kernel
theorem dX3_takeFrom_62 : decode cX3_takeFrom 62 = .ok (.aload_n 0, 1) := by decide +kernel
theorem dX3_takeFrom_63 : decode cX3_takeFrom 63 = .ok (.aload_n 1, 1) := by decide +kernel
theorem dX3_takeFrom_64 : decode cX3_takeFrom 64 = .ok (.getfield 18, 3) := by decide +kernel
theorem dX3_takeFrom_67 : decode cX3_takeFrom 67 = .ok (.putfield 18, 3) := by decide +kernel
theorem dX3_takeFrom_70 : decode cX3_takeFrom 70 = .ok (.aload_n 0, 1) := by decide +kernel
theorem dX3_takeFrom_71 : decode cX3_takeFrom 71 = .ok (.aload_n 1, 1) := by decide +kernel
theorem dX3_takeFrom_72 : decode cX3_takeFrom 72 = .ok (.getfield 49, 3) := by decide +kernel
theorem dX3_takeFrom_75 : decode cX3_takeFrom 75 = .ok (.putfield 49, 3) := by decide +kernel
theorem dX3_takeFrom_78 : decode cX3_takeFrom 78 = .ok (.aload_n 0, 1) := by decide +kernel
theorem dX3_takeFrom_79 : decode cX3_takeFrom 79 = .ok (.aload_n 1, 1) := by decide +kernel
theorem dX3_takeFrom_80 : decode cX3_takeFrom 80 = .ok (.getfield 22, 3) := by decide +kernel
theorem dX3_takeFrom_83 : decode cX3_takeFrom 83 = .ok (.putfield 22, 3) := by decide +kernel
theorem dX3_takeFrom_86 : decode cX3_takeFrom 86 = .ok (.aload_n 0, 1) := by decide +kernel
theorem dX3_takeFrom_87 : decode cX3_takeFrom 87 = .ok (.aload_n 1, 1) := by decide +kernel
theorem dX3_takeFrom_88 : decode cX3_takeFrom 88 = .ok (.getfield 52, 3) := by decide +kernel
theorem dX3_takeFrom_91 : decode cX3_takeFrom 91 = .ok (.putfield 52, 3) := by decide +kernel
theorem dX3_takeFrom_94 : decode cX3_takeFrom 94 = .ok (.aload_n 0, 1) := by decide +kernel
theorem dX3_takeFrom_95 : decode cX3_takeFrom 95 = .ok (.aload_n 1, 1) := by decide +kernel
theorem dX3_takeFrom_96 : decode cX3_takeFrom 96 = .ok (.getfield 55, 3) := by decide +kernel
theorem dX3_takeFrom_99 : decode cX3_takeFrom 99 = .ok (.putfield 55, 3) := by decide +kernel
theorem dX3_takeFrom_102 : decode cX3_takeFrom 102 = .ok (.aload_n 0, 1) := by decide +kernel
theorem dX3_takeFrom_103 : decode cX3_takeFrom 103 = .ok (.aload_n 1, 1) := by decide +kernel
theorem dX3_takeFrom_104 : decode cX3_takeFrom 104 = .ok (.getfield 58, 3) := by decide +kernel
theorem dX3_takeFrom_107 : decode cX3_takeFrom 107 = .ok (.putfield 58, 3) := by decide +kernel
theorem dX3_takeFrom_110 : decode cX3_takeFrom 110 = .ok (.aload_n 0, 1) := by decide +kernel
theorem dX3_takeFrom_111 : decode cX3_takeFrom 111 = .ok (.aload_n 1, 1) := by decide +kernel
theorem dX3_takeFrom_112 : decode cX3_takeFrom 112 = .ok (.getfield 61, 3) := by decide +kernel
theorem dX3_takeFrom_115 : decode cX3_takeFrom 115 = .ok (.putfield 61, 3) := by decide +kernel
theorem dX3_takeFrom_118 : decode cX3_takeFrom 118 = .ok (.aload_n 0, 1) := by decide +kernel
theorem dX3_takeFrom_119 : decode cX3_takeFrom 119 = .ok (.aload_n 1, 1) := by decide +kernel
theorem dX3_takeFrom_120 : decode cX3_takeFrom 120 = .ok (.getfield 64, 3) := by decide +kernel
theorem dX3_takeFrom_123 : decode cX3_takeFrom 123 = .ok (.putfield 64, 3) := by decide +kernel
theorem dX3_takeFrom_126 : decode cX3_takeFrom 126 = .ok (.aload_n 0, 1) := by decide +kernel
theorem dX3_takeFrom_127 : decode cX3_takeFrom 127 = .ok (.aload_n 1, 1) := by decide +kernel
theorem dX3_takeFrom_128 : decode cX3_takeFrom 128 = .ok (.getfield 25, 3) := by decide +kernel
theorem dX3_takeFrom_131 : decode cX3_takeFrom 131 = .ok (.putfield 25, 3) := by decide +kernel
theorem dX3_takeFrom_134 : decode cX3_takeFrom 134 = .ok (.aload_n 1, 1) := by decide +kernel
theorem dX3_takeFrom_135 : decode cX3_takeFrom 135 = .ok (.getfield 28, 3) := by decide +kernel
theorem dX3_takeFrom_138 : decode cX3_takeFrom 138 = .ok (.iconst 0, 1) := by decide +kernel
theorem dX3_takeFrom_139 : decode cX3_takeFrom 139 = .ok (.aload_n 0, 1) := by decide +kernel
theorem dX3_takeFrom_140 : decode cX3_takeFrom 140 = .ok (.getfield 28, 3) := by decide +kernel
theorem dX3_takeFrom_143 : decode cX3_takeFrom 143 = .ok (.iconst 0, 1) := by decide +kernel
theorem dX3_takeFrom_144 : decode cX3_takeFrom 144 = .ok (.bipush 8, 2) := by decide +kernel
theorem dX3_takeFrom_146 : decode cX3_takeFrom 146 = .ok (.invokestatic 40, 3) := by decide +kernel
theorem dX3_takeFrom_149 : decode cX3_takeFrom 149 = .ok (.return_, 1) := by decide +kernel
theorem dX3_addStop_0 : decode cX3_addStop 0 = .ok (.aload_n 0, 1) := by decide +kernel
theorem dX3_addStop_1 : decode cX3_addStop 1 = .ok (.getfield 37, 3) := by decide +kernel
theorem dX3_addStop_4 : decode cX3_addStop 4 = .ok (.ifCond .lt 42, 3) := by decide +kernel
theorem dX3_addStop_7 : decode cX3_addStop 7 = .ok (.aload_n 0, 1) := by decide +kernel
theorem dX3_addStop_8 : decode cX3_addStop 8 = .ok (.getfield 37, 3) := by decide +kernel
theorem dX3_addStop_11 : decode cX3_addStop 11 = .ok (.bipush 8, 2) := by decide +kernel
theorem dX3_addStop_13 : decode cX3_addStop 13 = .ok (.if_icmp .ge 33, 3) := by decide +kernel
theorem dX3_addStop_16 : decode cX3_addStop 16 = .ok (.aload_n 0, 1) := by decide +kernel
theorem dX3_addStop_17 : decode cX3_addStop 17 = .ok (.getfield 9, 3) := by decide +kernel
theorem dX3_addStop_20 : decode cX3_addStop 20 = .ok (.aload_n 0, 1) := by decide +kernel
theorem dX3_addStop_21 : decode cX3_addStop 21 = .ok (.getfield 37, 3) := by decide +kernel
theorem dX3_addStop_24 : decode cX3_addStop 24 = .ok (.iload_n 1, 1) := by decide +kernel
theorem dX3_addStop_25 : decode cX3_addStop 25 = .ok (.iastore, 1) := by decide +kernel
theorem dX3_addStop_26 : decode cX3_addStop 26 = .ok (.aload_n 0, 1) := by decide +kernel
theorem dX3_addStop_27 : decode cX3_addStop 27 = .ok (.getfield 15, 3) := by decide +kernel
theorem dX3_addStop_30 : decode cX3_addStop 30 = .ok (.aload_n 0, 1) := by decide +kernel
theorem dX3_addStop_31 : decode cX3_addStop 31 = .ok (.getfield 37, 3) := by decide +kernel
theorem dX3_addStop_34 : decode cX3_addStop 34 = .ok (.iload_n 2, 1) := by decide +kernel
theorem dX3_addStop_35 : decode cX3_addStop 35 = .ok (.iastore, 1) := by decide +kernel
theorem dX3_addStop_36 : decode cX3_addStop 36 = .ok (.aload_n 0, 1) := by decide +kernel
theorem dX3_addStop_37 : decode cX3_addStop 37 = .ok (.dup, 1) := by decide +kernel
theorem dX3_addStop_38 : decode cX3_addStop 38 = .ok (.getfield 37, 3) := by decide +kernel
theorem dX3_addStop_41 : decode cX3_addStop 41 = .ok (.iconst 1, 1) := by decide +kernel
theorem dX3_addStop_42 : decode cX3_addStop 42 = .ok (.iadd, 1) := by decide +kernel
theorem dX3_addStop_43 : decode cX3_addStop 43 = .ok (.putfield 37, 3) := by decide +kernel
theorem dX3_addStop_46 : decode cX3_addStop 46 = .ok (.return_, 1) := by decide +kernel
theorem dX3_stationOf_0 : decode cX3_stationOf 0 = .ok (.iload_n 1, 1) := by decide +kernel
theorem dX3_stationOf_1 : decode cX3_stationOf 1 = .ok (.ifCond .lt 21, 3) := by decide +kernel
theorem dX3_stationOf_4 : decode cX3_stationOf 4 = .ok (.iload_n 1, 1) := by decide +kernel
theorem dX3_stationOf_5 : decode cX3_stationOf 5 = .ok (.aload_n 0, 1) := by decide +kernel
theorem dX3_stationOf_6 : decode cX3_stationOf 6 = .ok (.getfield 9, 3) := by decide +kernel
theorem dX3_stationOf_9 : decode cX3_stationOf 9 = .ok (.arraylength, 1) := by decide +kernel
theorem dX3_stationOf_10 : decode cX3_stationOf 10 = .ok (.if_icmp .ge 12, 3) := by decide +kernel
theorem dX3_stationOf_13 : decode cX3_stationOf 13 = .ok (.aload_n 0, 1) := by decide +kernel
theorem dX3_stationOf_14 : decode cX3_stationOf 14 = .ok (.getfield 9, 3) := by decide +kernel
theorem dX3_stationOf_17 : decode cX3_stationOf 17 = .ok (.iload_n 1, 1) := by decide +kernel
theorem dX3_stationOf_18 : decode cX3_stationOf 18 = .ok (.iaload, 1) := by decide +kernel
theorem dX3_stationOf_19 : decode cX3_stationOf 19 = .ok (.goto 4, 3) := by decide +kernel
theorem dX3_stationOf_22 : decode cX3_stationOf 22 = .ok (.iconst (-1), 1) := by decide +kernel
theorem dX3_stationOf_23 : decode cX3_stationOf 23 = .ok (.ireturn, 1) := by decide +kernel
theorem dX3_timeOf_0 : decode cX3_timeOf 0 = .ok (.iload_n 1, 1) := by decide +kernel
theorem dX3_timeOf_1 : decode cX3_timeOf 1 = .ok (.ifCond .lt 21, 3) := by decide +kernel
theorem dX3_timeOf_4 : decode cX3_timeOf 4 = .ok (.iload_n 1, 1) := by decide +kernel
theorem dX3_timeOf_5 : decode cX3_timeOf 5 = .ok (.aload_n 0, 1) := by decide +kernel
theorem dX3_timeOf_6 : decode cX3_timeOf 6 = .ok (.getfield 15, 3) := by decide +kernel
theorem dX3_timeOf_9 : decode cX3_timeOf 9 = .ok (.arraylength, 1) := by decide +kernel
theorem dX3_timeOf_10 : decode cX3_timeOf 10 = .ok (.if_icmp .ge 12, 3) := by decide +kernel
theorem dX3_timeOf_13 : decode cX3_timeOf 13 = .ok (.aload_n 0, 1) := by decide +kernel
theorem dX3_timeOf_14 : decode cX3_timeOf 14 = .ok (.getfield 15, 3) := by decide +kernel
theorem dX3_timeOf_17 : decode cX3_timeOf 17 = .ok (.iload_n 1, 1) := by decide +kernel
theorem dX3_timeOf_18 : decode cX3_timeOf 18 = .ok (.iaload, 1) := by decide +kernel
theorem dX3_timeOf_19 : decode cX3_timeOf 19 = .ok (.goto 4, 3) := by decide +kernel
theorem dX3_timeOf_22 : decode cX3_timeOf 22 = .ok (.iconst (-1), 1) := by decide +kernel
theorem dX3_timeOf_23 : decode cX3_timeOf 23 = .ok (.ireturn, 1) := by decide +kernel
theorem dX3_isOnBlock_0 : decode cX3_isOnBlock 0 = .ok (.aload_n 0, 1) := by decide +kernel
theorem dX3_isOnBlock_1 : decode cX3_isOnBlock 1 = .ok (.getfield 22, 3) := by decide +kernel
theorem dX3_isOnBlock_4 : decode cX3_isOnBlock 4 = .ok (.iconst (-1), 1) := by decide +kernel
theorem dX3_isOnBlock_5 : decode cX3_isOnBlock 5 = .ok (.if_icmp .eq 7, 3) := by decide +kernel
theorem dX3_isOnBlock_8 : decode cX3_isOnBlock 8 = .ok (.iconst 1, 1) := by decide +kernel
theorem dX3_isOnBlock_9 : decode cX3_isOnBlock 9 = .ok (.goto 4, 3) := by decide +kernel
theorem dX3_isOnBlock_12 : decode cX3_isOnBlock 12 = .ok (.iconst 0, 1) := by decide +kernel
theorem dX3_isOnBlock_13 : decode cX3_isOnBlock 13 = .ok (.ireturn, 1) := by decide +kernel
theorem dX3_isAtEndOfBlock_0 : decode cX3_isAtEndOfBlock 0 = .ok (.aload_n 0, 1) := by decide +kernel
theorem dX3_isAtEndOfBlock_1 : decode cX3_isAtEndOfBlock 1 = .ok (.getfield 22, 3) := by decide +kernel
theorem dX3_isAtEndOfBlock_4 : decode cX3_isAtEndOfBlock 4 = .ok (.iconst (-1), 1) := by decide +kernel
theorem dX3_isAtEndOfBlock_5 : decode cX3_isAtEndOfBlock 5 = .ok (.if_icmp .eq 14, 3) := by decide +kernel
theorem dX3_isAtEndOfBlock_8 : decode cX3_isAtEndOfBlock 8 = .ok (.aload_n 0, 1) := by decide +kernel
theorem dX3_isAtEndOfBlock_9 : decode cX3_isAtEndOfBlock 9 = .ok (.getfield 55, 3) := by decide +kernel
theorem dX3_isAtEndOfBlock_12 : decode cX3_isAtEndOfBlock 12 = .ok (.ifCond .ne 7, 3) := by decide +kernel
theorem dX3_isAtEndOfBlock_15 : decode cX3_isAtEndOfBlock 15 = .ok (.iconst 1, 1) := by decide +kernel
theorem dX3_isAtEndOfBlock_16 : decode cX3_isAtEndOfBlock 16 = .ok (.goto 4, 3) := by decide +kernel
theorem dX3_isAtEndOfBlock_19 : decode cX3_isAtEndOfBlock 19 = .ok (.iconst 0, 1) := by decide +kernel
theorem dX3_isAtEndOfBlock_20 : decode cX3_isAtEndOfBlock 20 = .ok (.ireturn, 1) := by decide +kernel
theorem dX3_isAtStation_0 : decode cX3_isAtStation 0 = .ok (.aload_n 0, 1) := by decide +kernel
theorem dX3_isAtStation_1 : decode cX3_isAtStation 1 = .ok (.getfield 18, 3) := by decide +kernel
theorem dX3_isAtStation_4 : decode cX3_isAtStation 4 = .ok (.iconst (-1), 1) := by decide +kernel
theorem dX3_isAtStation_5 : decode cX3_isAtStation 5 = .ok (.if_icmp .eq 7, 3) := by decide +kernel
theorem dX3_isAtStation_8 : decode cX3_isAtStation 8 = .ok (.iconst 1, 1) := by decide +kernel
theorem dX3_isAtStation_9 : decode cX3_isAtStation 9 = .ok (.goto 4, 3) := by decide +kernel
theorem dX3_isAtStation_12 : decode cX3_isAtStation 12 = .ok (.iconst 0, 1) := by decide +kernel
theorem dX3_isAtStation_13 : decode cX3_isAtStation 13 = .ok (.ireturn, 1) := by decide +kernel
theorem dX3_isDone_0 : decode cX3_isDone 0 = .ok (.aload_n 0, 1) := by decide +kernel
theorem dX3_isDone_1 : decode cX3_isDone 1 = .ok (.getfield 18, 3) := by decide +kernel
theorem dX3_isDone_4 : decode cX3_isDone 4 = .ok (.iconst (-1), 1) := by decide +kernel
theorem dX3_isDone_5 : decode cX3_isDone 5 = .ok (.if_icmp .ne 15, 3) := by decide +kernel
theorem dX3_isDone_8 : decode cX3_isDone 8 = .ok (.aload_n 0, 1) := by decide +kernel
theorem dX3_isDone_9 : decode cX3_isDone 9 = .ok (.getfield 22, 3) := by decide +kernel
theorem dX3_isDone_12 : decode cX3_isDone 12 = .ok (.iconst (-1), 1) := by decide +kernel
theorem dX3_isDone_13 : decode cX3_isDone 13 = .ok (.if_icmp .ne 7, 3) := by decide +kernel
theorem dX3_isDone_16 : decode cX3_isDone 16 = .ok (.iconst 1, 1) := by decide +kernel
theorem dX3_isDone_17 : decode cX3_isDone 17 = .ok (.goto 4, 3) := by decide +kernel
theorem dX3_isDone_20 : decode cX3_isDone 20 = .ok (.iconst 0, 1) := by decide +kernel
theorem dX3_isDone_21 : decode cX3_isDone 21 = .ok (.ireturn, 1) := by decide +kernel
theorem dX3_isAtLastStop_0 : decode cX3_isAtLastStop 0 = .ok (.aload_n 0, 1) := by decide +kernel
theorem dX3_isAtLastStop_1 : decode cX3_isAtLastStop 1 = .ok (.getfield 46, 3) := by decide +kernel
theorem dX3_isAtLastStop_4 : decode cX3_isAtLastStop 4 = .ok (.aload_n 0, 1) := by decide +kernel
theorem dX3_isAtLastStop_5 : decode cX3_isAtLastStop 5 = .ok (.getfield 37, 3) := by decide +kernel
theorem dX3_isAtLastStop_8 : decode cX3_isAtLastStop 8 = .ok (.iconst 1, 1) := by decide +kernel
theorem dX3_isAtLastStop_9 : decode cX3_isAtLastStop 9 = .ok (.isub, 1) := by decide +kernel
theorem dX3_isAtLastStop_10 : decode cX3_isAtLastStop 10 = .ok (.if_icmp .lt 7, 3) := by decide +kernel
theorem dX3_isAtLastStop_13 : decode cX3_isAtLastStop 13 = .ok (.iconst 1, 1) := by decide +kernel
theorem dX3_isAtLastStop_14 : decode cX3_isAtLastStop 14 = .ok (.goto 4, 3) := by decide +kernel
theorem dX3_isAtLastStop_17 : decode cX3_isAtLastStop 17 = .ok (.iconst 0, 1) := by decide +kernel
theorem dX3_isAtLastStop_18 : decode cX3_isAtLastStop 18 = .ok (.ireturn, 1) := by decide +kernel
theorem dX3_beLate_0 : decode cX3_beLate 0 = .ok (.aload_n 0, 1) := by decide +kernel
theorem dX3_beLate_1 : decode cX3_beLate 1 = .ok (.iconst 0, 1) := by decide +kernel
theorem dX3_beLate_2 : decode cX3_beLate 2 = .ok (.iload_n 1, 1) := by decide +kernel
theorem dX3_beLate_3 : decode cX3_beLate 3 = .ok (.aload_n 0, 1) := by decide +kernel
theorem dX3_beLate_4 : decode cX3_beLate 4 = .ok (.aload_n 0, 1) := by decide +kernel
theorem dX3_beLate_5 : decode cX3_beLate 5 = .ok (.getfield 46, 3) := by decide +kernel
theorem dX3_beLate_8 : decode cX3_beLate 8 = .ok (.invokevirtual 67, 3) := by decide +kernel
theorem dX3_beLate_11 : decode cX3_beLate 11 = .ok (.isub, 1) := by decide +kernel
theorem dX3_beLate_12 : decode cX3_beLate 12 = .ok (.invokestatic 71, 3) := by decide +kernel
theorem dX3_beLate_15 : decode cX3_beLate 15 = .ok (.putfield 61, 3) := by decide +kernel
theorem dX3_beLate_18 : decode cX3_beLate 18 = .ok (.return_, 1) := by decide +kernel
theorem dX3_waitOneTick_0 : decode cX3_waitOneTick 0 = .ok (.aload_n 0, 1) := by decide +kernel
theorem dX3_waitOneTick_1 : decode cX3_waitOneTick 1 = .ok (.dup, 1) := by decide +kernel
theorem dX3_waitOneTick_2 : decode cX3_waitOneTick 2 = .ok (.getfield 64, 3) := by decide +kernel
theorem dX3_waitOneTick_5 : decode cX3_waitOneTick 5 = .ok (.iconst 1, 1) := by decide +kernel
theorem dX3_waitOneTick_6 : decode cX3_waitOneTick 6 = .ok (.iadd, 1) := by decide +kernel
theorem dX3_waitOneTick_7 : decode cX3_waitOneTick 7 = .ok (.putfield 64, 3) := by decide +kernel
theorem dX3_waitOneTick_10 : decode cX3_waitOneTick 10 = .ok (.aload_n 0, 1) := by decide +kernel
theorem dX3_waitOneTick_11 : decode cX3_waitOneTick 11 = .ok (.iload_n 1, 1) := by decide +kernel
theorem dX3_waitOneTick_12 : decode cX3_waitOneTick 12 = .ok (.putfield 25, 3) := by decide +kernel
theorem dX3_waitOneTick_15 : decode cX3_waitOneTick 15 = .ok (.iload_n 1, 1) := by decide +kernel
theorem dX3_waitOneTick_16 : decode cX3_waitOneTick 16 = .ok (.ifCond .lt 22, 3) := by decide +kernel
theorem dX3_waitOneTick_19 : decode cX3_waitOneTick 19 = .ok (.iload_n 1, 1) := by decide +kernel
theorem dX3_waitOneTick_20 : decode cX3_waitOneTick 20 = .ok (.aload_n 0, 1) := by decide +kernel
theorem dX3_waitOneTick_21 : decode cX3_waitOneTick 21 = .ok (.getfield 28, 3) := by decide +kernel
theorem dX3_waitOneTick_24 : decode cX3_waitOneTick 24 = .ok (.arraylength, 1) := by decide +kernel
theorem dX3_waitOneTick_25 : decode cX3_waitOneTick 25 = .ok (.if_icmp .ge 13, 3) := by decide +kernel
theorem dX3_waitOneTick_28 : decode cX3_waitOneTick 28 = .ok (.aload_n 0, 1) := by decide +kernel
theorem dX3_waitOneTick_29 : decode cX3_waitOneTick 29 = .ok (.getfield 28, 3) := by decide +kernel
theorem dX3_waitOneTick_32 : decode cX3_waitOneTick 32 = .ok (.iload_n 1, 1) := by decide +kernel
theorem dX3_waitOneTick_33 : decode cX3_waitOneTick 33 = .ok (.dup2, 1) := by decide +kernel
theorem dX3_waitOneTick_34 : decode cX3_waitOneTick 34 = .ok (.iaload, 1) := by decide +kernel
theorem dX3_waitOneTick_35 : decode cX3_waitOneTick 35 = .ok (.iconst 1, 1) := by decide +kernel
theorem dX3_waitOneTick_36 : decode cX3_waitOneTick 36 = .ok (.iadd, 1) := by decide +kernel
theorem dX3_waitOneTick_37 : decode cX3_waitOneTick 37 = .ok (.iastore, 1) := by decide +kernel
theorem dX3_waitOneTick_38 : decode cX3_waitOneTick 38 = .ok (.return_, 1) := by decide +kernel
theorem dX4_init_0 : decode cX4_init 0 = .ok (.aload_n 0, 1) := by decide +kernel
theorem dX4_init_1 : decode cX4_init 1 = .ok (.invokespecial 1, 3) := by decide +kernel
theorem dX4_init_4 : decode cX4_init 4 = .ok (.aload_n 0, 1) := by decide +kernel
theorem dX4_init_5 : decode cX4_init 5 = .ok (.new 7, 3) := by decide +kernel
theorem dX4_init_8 : decode cX4_init 8 = .ok (.dup, 1) := by decide +kernel
theorem dX4_init_9 : decode cX4_init 9 = .ok (.invokespecial 9, 3) := by decide +kernel
theorem dX4_init_12 : decode cX4_init 12 = .ok (.putfield 10, 3) := by decide +kernel
theorem dX4_init_15 : decode cX4_init 15 = .ok (.aload_n 0, 1) := by decide +kernel
theorem dX4_init_16 : decode cX4_init 16 = .ok (.new 7, 3) := by decide +kernel
theorem dX4_init_19 : decode cX4_init 19 = .ok (.dup, 1) := by decide +kernel
theorem dX4_init_20 : decode cX4_init 20 = .ok (.invokespecial 9, 3) := by decide +kernel
theorem dX4_init_23 : decode cX4_init 23 = .ok (.putfield 16, 3) := by decide +kernel
theorem dX4_init_26 : decode cX4_init 26 = .ok (.return_, 1) := by decide +kernel
theorem dX4_block_0 : decode cX4_block 0 = .ok (.iload_n 1, 1) := by decide +kernel
theorem dX4_block_1 : decode cX4_block 1 = .ok (.iconst 1, 1) := by decide +kernel
theorem dX4_block_2 : decode cX4_block 2 = .ok (.bipush 9, 2) := by decide +kernel
theorem dX4_block_4 : decode cX4_block 4 = .ok (.invokestatic 23, 3) := by decide +kernel
theorem dX4_block_7 : decode cX4_block 7 = .ok (.aload_n 0, 1) := by decide +kernel
theorem dX4_block_8 : decode cX4_block 8 = .ok (.getfield 10, 3) := by decide +kernel
theorem dX4_block_11 : decode cX4_block 11 = .ok (.getfield 31, 3) := by decide +kernel
theorem dX4_block_14 : decode cX4_block 14 = .ok (.bipush 16, 2) := by decide +kernel
theorem dX4_block_16 : decode cX4_block 16 = .ok (.if_icmp .lt 13, 3) := by decide +kernel
theorem dX4_block_19 : decode cX4_block 19 = .ok (.new 35, 3) := by decide +kernel
theorem dX4_block_22 : decode cX4_block 22 = .ok (.dup, 1) := by decide +kernel
theorem dX4_block_23 : decode cX4_block 23 = .ok (.ldc 37, 2) := by decide +kernel
theorem dX4_block_25 : decode cX4_block 25 = .ok (.invokespecial 39, 3) := by decide +kernel
theorem dX4_block_28 : decode cX4_block 28 = .ok (.athrow, 1) := by decide +kernel
theorem dX4_block_29 : decode cX4_block 29 = .ok (.aload_n 0, 1) := by decide +kernel
theorem dX4_block_30 : decode cX4_block 30 = .ok (.getfield 10, 3) := by decide +kernel
theorem dX4_block_33 : decode cX4_block 33 = .ok (.getfield 31, 3) := by decide +kernel
theorem dX4_block_36 : decode cX4_block 36 = .ok (.istore_n 2, 1) := by decide +kernel
theorem dX4_block_37 : decode cX4_block 37 = .ok (.aload_n 0, 1) := by decide +kernel
theorem dX4_block_38 : decode cX4_block 38 = .ok (.getfield 10, 3) := by decide +kernel
theorem dX4_block_41 : decode cX4_block 41 = .ok (.getfield 42, 3) := by decide +kernel
theorem dX4_block_44 : decode cX4_block 44 = .ok (.iload_n 2, 1) := by decide +kernel
theorem dX4_block_45 : decode cX4_block 45 = .ok (.aaload, 1) := by decide +kernel
theorem dX4_block_46 : decode cX4_block 46 = .ok (.iload_n 1, 1) := by decide +kernel
theorem dX4_block_47 : decode cX4_block 47 = .ok (.putfield 46, 3) := by decide +kernel
theorem dX4_block_50 : decode cX4_block 50 = .ok (.aload_n 0, 1) := by decide +kernel
theorem dX4_block_51 : decode cX4_block 51 = .ok (.getfield 10, 3) := by decide +kernel
theorem dX4_block_54 : decode cX4_block 54 = .ok (.iload_n 2, 1) := by decide +kernel
theorem dX4_block_55 : decode cX4_block 55 = .ok (.iconst 1, 1) := by decide +kernel
theorem dX4_block_56 : decode cX4_block 56 = .ok (.iadd, 1) := by decide +kernel
theorem dX4_block_57 : decode cX4_block 57 = .ok (.putfield 31, 3) := by decide +kernel
theorem dX4_block_60 : decode cX4_block 60 = .ok (.iload_n 2, 1) := by decide +kernel
theorem dX4_block_61 : decode cX4_block 61 = .ok (.ireturn, 1) := by decide +kernel
theorem dX4_route_0 : decode cX4_route 0 = .ok (.iload_n 1, 1) := by decide +kernel
theorem dX4_route_1 : decode cX4_route 1 = .ok (.invokestatic 19, 3) := by decide +kernel
theorem dX4_route_4 : decode cX4_route 4 = .ok (.iload_n 2, 1) := by decide +kernel
theorem dX4_route_5 : decode cX4_route 5 = .ok (.invokestatic 19, 3) := by decide +kernel
theorem dX4_route_8 : decode cX4_route 8 = .ok (.aload_n 0, 1) := by decide +kernel
theorem dX4_route_9 : decode cX4_route 9 = .ok (.iload_n 3, 1) := by decide +kernel
theorem dX4_route_10 : decode cX4_route 10 = .ok (.invokevirtual 51, 3) := by decide +kernel
theorem dX4_route_13 : decode cX4_route 13 = .ok (.iload_n 1, 1) := by decide +kernel
theorem dX4_route_14 : decode cX4_route 14 = .ok (.iload_n 2, 1) := by decide +kernel
theorem dX4_route_15 : decode cX4_route 15 = .ok (.if_icmp .ne 13, 3) := by decide +kernel
theorem dX4_route_18 : decode cX4_route 18 = .ok (.new 54, 3) := by decide +kernel
theorem dX4_route_21 : decode cX4_route 21 = .ok (.dup, 1) := by decide +kernel
theorem dX4_route_22 : decode cX4_route 22 = .ok (.ldc 56, 2) := by decide +kernel
theorem dX4_route_24 : decode cX4_route 24 = .ok (.invokespecial 58, 3) := by decide +kernel
theorem dX4_route_27 : decode cX4_route 27 = .ok (.athrow, 1) := by decide +kernel
theorem dX4_route_28 : decode cX4_route 28 = .ok (.aload_n 0, 1) := by decide +kernel
theorem dX4_route_29 : decode cX4_route 29 = .ok (.getfield 10, 3) := by decide +kernel
theorem dX4_route_32 : decode cX4_route 32 = .ok (.getfield 59, 3) := by decide +kernel
theorem dX4_route_35 : decode cX4_route 35 = .ok (.bipush 16, 2) := by decide +kernel
theorem dX4_route_37 : decode cX4_route 37 = .ok (.if_icmp .lt 13, 3) := by decide +kernel
theorem dX4_route_40 : decode cX4_route 40 = .ok (.new 35, 3) := by decide +kernel
theorem dX4_route_43 : decode cX4_route 43 = .ok (.dup, 1) := by decide +kernel
theorem dX4_route_44 : decode cX4_route 44 = .ok (.ldc 62, 2) := by decide +kernel
theorem dX4_route_46 : decode cX4_route 46 = .ok (.invokespecial 39, 3) := by decide +kernel
theorem dX4_route_49 : decode cX4_route 49 = .ok (.athrow, 1) := by decide +kernel
theorem dX4_route_50 : decode cX4_route 50 = .ok (.aload_n 0, 1) := by decide +kernel
theorem dX4_route_51 : decode cX4_route 51 = .ok (.getfield 10, 3) := by decide +kernel
theorem dX4_route_54 : decode cX4_route 54 = .ok (.getfield 59, 3) := by decide +kernel
theorem dX4_route_57 : decode cX4_route 57 = .ok (.istore 5, 2) := by decide +kernel
theorem dX4_route_59 : decode cX4_route 59 = .ok (.aload_n 0, 1) := by decide +kernel
theorem dX4_route_60 : decode cX4_route 60 = .ok (.getfield 10, 3) := by decide +kernel
theorem dX4_route_63 : decode cX4_route 63 = .ok (.getfield 64, 3) := by decide +kernel
theorem dX4_route_66 : decode cX4_route 66 = .ok (.iload 5, 2) := by decide +kernel
theorem dX4_route_68 : decode cX4_route 68 = .ok (.aaload, 1) := by decide +kernel
theorem dX4_route_69 : decode cX4_route 69 = .ok (.iload_n 1, 1) := by decide +kernel
theorem dX4_route_70 : decode cX4_route 70 = .ok (.iload_n 2, 1) := by decide +kernel
theorem dX4_route_71 : decode cX4_route 71 = .ok (.iload 4, 2) := by decide +kernel
theorem dX4_route_73 : decode cX4_route 73 = .ok (.invokevirtual 68, 3) := by decide +kernel
theorem dX4_route_76 : decode cX4_route 76 = .ok (.aload_n 0, 1) := by decide +kernel
theorem dX4_route_77 : decode cX4_route 77 = .ok (.getfield 10, 3) := by decide +kernel
theorem dX4_route_80 : decode cX4_route 80 = .ok (.getfield 64, 3) := by decide +kernel
theorem dX4_route_83 : decode cX4_route 83 = .ok (.iload 5, 2) := by decide +kernel
theorem dX4_route_85 : decode cX4_route 85 = .ok (.aaload, 1) := by decide +kernel
theorem dX4_route_86 : decode cX4_route 86 = .ok (.iload_n 3, 1) := by decide +kernel
theorem dX4_route_87 : decode cX4_route 87 = .ok (.invokevirtual 74, 3) := by decide +kernel
theorem dX4_route_90 : decode cX4_route 90 = .ok (.aload_n 0, 1) := by decide +kernel
theorem dX4_route_91 : decode cX4_route 91 = .ok (.getfield 10, 3) := by decide +kernel
theorem dX4_route_94 : decode cX4_route 94 = .ok (.iload 5, 2) := by decide +kernel
theorem dX4_route_96 : decode cX4_route 96 = .ok (.iconst 1, 1) := by decide +kernel
theorem dX4_route_97 : decode cX4_route 97 = .ok (.iadd, 1) := by decide +kernel
theorem dX4_route_98 : decode cX4_route 98 = .ok (.putfield 59, 3) := by decide +kernel
theorem dX4_route_101 : decode cX4_route 101 = .ok (.iload 5, 2) := by decide +kernel
theorem dX4_route_103 : decode cX4_route 103 = .ok (.ireturn, 1) := by decide +kernel
theorem dX4_over_0 : decode cX4_over 0 = .ok (.aload_n 0, 1) := by decide +kernel
theorem dX4_over_1 : decode cX4_over 1 = .ok (.iload_n 1, 1) := by decide +kernel
theorem dX4_over_2 : decode cX4_over 2 = .ok (.invokevirtual 77, 3) := by decide +kernel
theorem dX4_over_5 : decode cX4_over 5 = .ok (.aload_n 0, 1) := by decide +kernel
theorem dX4_over_6 : decode cX4_over 6 = .ok (.iload_n 2, 1) := by decide +kernel
theorem dX4_over_7 : decode cX4_over 7 = .ok (.invokevirtual 51, 3) := by decide +kernel
theorem dX4_over_10 : decode cX4_over 10 = .ok (.aload_n 0, 1) := by decide +kernel
theorem dX4_over_11 : decode cX4_over 11 = .ok (.getfield 10, 3) := by decide +kernel
theorem dX4_over_14 : decode cX4_over 14 = .ok (.getfield 64, 3) := by decide +kernel
theorem dX4_over_17 : decode cX4_over 17 = .ok (.iload_n 1, 1) := by decide +kernel
theorem dX4_over_18 : decode cX4_over 18 = .ok (.aaload, 1) := by decide +kernel
theorem dX4_over_19 : decode cX4_over 19 = .ok (.astore_n 3, 1) := by decide +kernel
theorem dX4_over_20 : decode cX4_over 20 = .ok (.aload_n 3, 1) := by decide +kernel
theorem dX4_over_21 : decode cX4_over 21 = .ok (.iload_n 2, 1) := by decide +kernel
theorem dX4_over_22 : decode cX4_over 22 = .ok (.invokevirtual 80, 3) := by decide +kernel
theorem dX4_over_25 : decode cX4_over 25 = .ok (.ifCond .eq 13, 3) := by decide +kernel
theorem dX4_over_28 : decode cX4_over 28 = .ok (.new 54, 3) := by decide +kernel
theorem dX4_over_31 : decode cX4_over 31 = .ok (.dup, 1) := by decide +kernel
theorem dX4_over_32 : decode cX4_over 32 = .ok (.ldc 84, 2) := by decide +kernel
theorem dX4_over_34 : decode cX4_over 34 = .ok (.invokespecial 58, 3) := by decide +kernel
theorem dX4_over_37 : decode cX4_over 37 = .ok (.athrow, 1) := by decide +kernel
theorem dX4_over_38 : decode cX4_over 38 = .ok (.aload_n 3, 1) := by decide +kernel
theorem dX4_over_39 : decode cX4_over 39 = .ok (.getfield 86, 3) := by decide +kernel
theorem dX4_over_42 : decode cX4_over 42 = .ok (.iconst 5, 1) := by decide +kernel
theorem dX4_over_43 : decode cX4_over 43 = .ok (.if_icmp .ge 14, 3) := by decide +kernel
theorem dX4_over_46 : decode cX4_over 46 = .ok (.aload_n 0, 1) := by decide +kernel
theorem dX4_over_47 : decode cX4_over 47 = .ok (.getfield 10, 3) := by decide +kernel
theorem dX4_over_50 : decode cX4_over 50 = .ok (.iload_n 1, 1) := by decide +kernel
theorem dX4_over_51 : decode cX4_over 51 = .ok (.invokevirtual 89, 3) := by decide +kernel
theorem dX4_over_54 : decode cX4_over 54 = .ok (.ifCond .eq 13, 3) := by decide +kernel
theorem dX4_over_57 : decode cX4_over 57 = .ok (.new 35, 3) := by decide +kernel
theorem dX4_over_60 : decode cX4_over 60 = .ok (.dup, 1) := by decide +kernel
theorem dX4_over_61 : decode cX4_over 61 = .ok (.ldc 92, 2) := by decide +kernel
theorem dX4_over_63 : decode cX4_over 63 = .ok (.invokespecial 39, 3) := by decide +kernel
theorem dX4_over_66 : decode cX4_over 66 = .ok (.athrow, 1) := by decide +kernel
theorem dX4_over_67 : decode cX4_over 67 = .ok (.aload_n 3, 1) := by decide +kernel
theorem dX4_over_68 : decode cX4_over 68 = .ok (.iload_n 2, 1) := by decide +kernel
theorem dX4_over_69 : decode cX4_over 69 = .ok (.invokevirtual 74, 3) := by decide +kernel
theorem dX4_over_72 : decode cX4_over 72 = .ok (.aload_n 3, 1) := by decide +kernel
theorem dX4_over_73 : decode cX4_over 73 = .ok (.getfield 86, 3) := by decide +kernel
theorem dX4_over_76 : decode cX4_over 76 = .ok (.ireturn, 1) := by decide +kernel
theorem dX4_order_0 : decode cX4_order 0 = .ok (.iload_n 1, 1) := by decide +kernel
theorem dX4_order_1 : decode cX4_order 1 = .ok (.iconst 0, 1) := by decide +kernel
theorem dX4_order_2 : decode cX4_order 2 = .ok (.iconst 2, 1) := by decide +kernel
theorem dX4_order_3 : decode cX4_order 3 = .ok (.invokestatic 23, 3) := by decide +kernel
theorem dX4_order_6 : decode cX4_order 6 = .ok (.iload_n 2, 1) := by decide +kernel
theorem dX4_order_7 : decode cX4_order 7 = .ok (.iconst 0, 1) := by decide +kernel
theorem dX4_order_8 : decode cX4_order 8 = .ok (.bipush 9, 2) := by decide +kernel
theorem dX4_order_10 : decode cX4_order 10 = .ok (.invokestatic 23, 3) := by decide +kernel
theorem dX4_order_13 : decode cX4_order 13 = .ok (.aload_n 0, 1) := by decide +kernel
theorem dX4_order_14 : decode cX4_order 14 = .ok (.getfield 10, 3) := by decide +kernel
theorem dX4_order_17 : decode cX4_order 17 = .ok (.getfield 105, 3) := by decide +kernel
theorem dX4_order_20 : decode cX4_order 20 = .ok (.istore_n 3, 1) := by decide +kernel
theorem dX4_order_21 : decode cX4_order 21 = .ok (.aload_n 0, 1) := by decide +kernel
theorem dX4_order_22 : decode cX4_order 22 = .ok (.getfield 10, 3) := by decide +kernel
theorem dX4_order_25 : decode cX4_order 25 = .ok (.iload_n 1, 1) := by decide +kernel
theorem dX4_order_26 : decode cX4_order 26 = .ok (.putfield 105, 3) := by decide +kernel
theorem dX4_order_29 : decode cX4_order 29 = .ok (.aload_n 0, 1) := by decide +kernel
theorem dX4_order_30 : decode cX4_order 30 = .ok (.getfield 10, 3) := by decide +kernel
theorem dX4_order_33 : decode cX4_order 33 = .ok (.iload_n 2, 1) := by decide +kernel
theorem dX4_order_34 : decode cX4_order 34 = .ok (.putfield 108, 3) := by decide +kernel
theorem dX4_order_37 : decode cX4_order 37 = .ok (.iload_n 3, 1) := by decide +kernel
theorem dX4_order_38 : decode cX4_order 38 = .ok (.ireturn, 1) := by decide +kernel
theorem dX4_train_0 : decode cX4_train 0 = .ok (.iload_n 3, 1) := by decide +kernel
theorem dX4_train_1 : decode cX4_train 1 = .ok (.invokestatic 19, 3) := by decide +kernel
theorem dX4_train_4 : decode cX4_train 4 = .ok (.iload_n 1, 1) := by decide +kernel
theorem dX4_train_5 : decode cX4_train 5 = .ok (.iconst 0, 1) := by decide +kernel
theorem dX4_train_6 : decode cX4_train 6 = .ok (.bipush 9, 2) := by decide +kernel
theorem dX4_train_8 : decode cX4_train 8 = .ok (.invokestatic 23, 3) := by decide +kernel
theorem dX4_train_11 : decode cX4_train 11 = .ok (.iload_n 2, 1) := by decide +kernel
theorem dX4_train_12 : decode cX4_train 12 = .ok (.iconst 1, 1) := by decide +kernel
theorem dX4_train_13 : decode cX4_train 13 = .ok (.iconst 3, 1) := by decide +kernel
theorem dX4_train_14 : decode cX4_train 14 = .ok (.invokestatic 23, 3) := by decide +kernel
theorem dX4_train_17 : decode cX4_train 17 = .ok (.iload 4, 2) := by decide +kernel
theorem dX4_train_19 : decode cX4_train 19 = .ok (.iconst 0, 1) := by decide +kernel
theorem dX4_train_20 : decode cX4_train 20 = .ok (.sipush 9999, 3) := by decide +kernel
theorem dX4_train_23 : decode cX4_train 23 = .ok (.invokestatic 23, 3) := by decide +kernel
theorem dX4_train_26 : decode cX4_train 26 = .ok (.aload_n 0, 1) := by decide +kernel
theorem dX4_train_27 : decode cX4_train 27 = .ok (.getfield 10, 3) := by decide +kernel
theorem dX4_train_30 : decode cX4_train 30 = .ok (.getfield 111, 3) := by decide +kernel
theorem dX4_train_33 : decode cX4_train 33 = .ok (.bipush 8, 2) := by decide +kernel
theorem dX4_train_35 : decode cX4_train 35 = .ok (.if_icmp .ge 14, 3) := by decide +kernel
theorem dX4_train_38 : decode cX4_train 38 = .ok (.aload_n 0, 1) := by decide +kernel
theorem dX4_train_39 : decode cX4_train 39 = .ok (.getfield 10, 3) := by decide +kernel
theorem dX4_train_42 : decode cX4_train 42 = .ok (.iload_n 3, 1) := by decide +kernel
theorem dX4_train_43 : decode cX4_train 43 = .ok (.invokevirtual 114, 3) := by decide +kernel
theorem dX4_train_46 : decode cX4_train 46 = .ok (.ifCond .ne 13, 3) := by decide +kernel
theorem dX4_train_49 : decode cX4_train 49 = .ok (.new 35, 3) := by decide +kernel
theorem dX4_train_52 : decode cX4_train 52 = .ok (.dup, 1) := by decide +kernel
theorem dX4_train_53 : decode cX4_train 53 = .ok (.ldc 117, 2) := by decide +kernel
theorem dX4_train_55 : decode cX4_train 55 = .ok (.invokespecial 39, 3) := by decide +kernel
theorem dX4_train_58 : decode cX4_train 58 = .ok (.athrow, 1) := by decide +kernel
theorem dX4_train_59 : decode cX4_train 59 = .ok (.aload_n 0, 1) := by decide +kernel
theorem dX4_train_60 : decode cX4_train 60 = .ok (.getfield 10, 3) := by decide +kernel
theorem dX4_train_63 : decode cX4_train 63 = .ok (.getfield 111, 3) := by decide +kernel
theorem dX4_train_66 : decode cX4_train 66 = .ok (.istore 5, 2) := by decide +kernel
theorem dX4_train_68 : decode cX4_train 68 = .ok (.aload_n 0, 1) := by decide +kernel
theorem dX4_train_69 : decode cX4_train 69 = .ok (.getfield 10, 3) := by decide +kernel
theorem dX4_train_72 : decode cX4_train 72 = .ok (.getfield 119, 3) := by decide +kernel
theorem dX4_train_75 : decode cX4_train 75 = .ok (.iload 5, 2) := by decide +kernel
theorem dX4_train_77 : decode cX4_train 77 = .ok (.aaload, 1) := by decide +kernel
theorem dX4_train_78 : decode cX4_train 78 = .ok (.astore 6, 2) := by decide +kernel
theorem dX4_train_80 : decode cX4_train 80 = .ok (.aload 6, 2) := by decide +kernel
theorem dX4_train_82 : decode cX4_train 82 = .ok (.iload_n 1, 1) := by decide +kernel
theorem dX4_train_83 : decode cX4_train 83 = .ok (.putfield 123, 3) := by decide +kernel
theorem dX4_train_86 : decode cX4_train 86 = .ok (.aload 6, 2) := by decide +kernel
theorem dX4_train_88 : decode cX4_train 88 = .ok (.iload_n 2, 1) := by decide +kernel
theorem dX4_train_89 : decode cX4_train 89 = .ok (.putfield 128, 3) := by decide +kernel
theorem dX4_train_92 : decode cX4_train 92 = .ok (.aload 6, 2) := by decide +kernel
theorem dX4_train_94 : decode cX4_train 94 = .ok (.iload_n 3, 1) := by decide +kernel
theorem dX4_train_95 : decode cX4_train 95 = .ok (.putfield 131, 3) := by decide +kernel
theorem dX4_train_98 : decode cX4_train 98 = .ok (.aload 6, 2) := by decide +kernel
theorem dX4_train_100 : decode cX4_train 100 = .ok (.aload_n 0, 1) := by decide +kernel
theorem dX4_train_101 : decode cX4_train 101 = .ok (.getfield 10, 3) := by decide +kernel
theorem dX4_train_104 : decode cX4_train 104 = .ok (.getfield 134, 3) := by decide +kernel
theorem dX4_train_107 : decode cX4_train 107 = .ok (.putfield 137, 3) := by decide +kernel
theorem dX4_train_110 : decode cX4_train 110 = .ok (.aload 6, 2) := by decide +kernel
theorem dX4_train_112 : decode cX4_train 112 = .ok (.iload_n 3, 1) := by decide +kernel
theorem dX4_train_113 : decode cX4_train 113 = .ok (.iload 4, 2) := by decide +kernel
theorem dX4_train_115 : decode cX4_train 115 = .ok (.invokevirtual 140, 3) := by decide +kernel
theorem dX4_train_118 : decode cX4_train 118 = .ok (.aload_n 0, 1) := by decide +kernel
theorem dX4_train_119 : decode cX4_train 119 = .ok (.getfield 10, 3) := by decide +kernel
theorem dX4_train_122 : decode cX4_train 122 = .ok (.iload 5, 2) := by decide +kernel
theorem dX4_train_124 : decode cX4_train 124 = .ok (.iconst 1, 1) := by decide +kernel
theorem dX4_train_125 : decode cX4_train 125 = .ok (.iadd, 1) := by decide +kernel
theorem dX4_train_126 : decode cX4_train 126 = .ok (.putfield 111, 3) := by decide +kernel
theorem dX4_train_129 : decode cX4_train 129 = .ok (.iload 5, 2) := by decide +kernel
theorem dX4_train_131 : decode cX4_train 131 = .ok (.ireturn, 1) := by decide +kernel
theorem dX4_stop_0 : decode cX4_stop 0 = .ok (.aload_n 0, 1) := by decide +kernel
theorem dX4_stop_1 : decode cX4_stop 1 = .ok (.iload_n 1, 1) := by decide +kernel
theorem dX4_stop_2 : decode cX4_stop 2 = .ok (.invokevirtual 143, 3) := by decide +kernel
theorem dX4_stop_5 : decode cX4_stop 5 = .ok (.iload_n 2, 1) := by decide +kernel
theorem dX4_stop_6 : decode cX4_stop 6 = .ok (.invokestatic 19, 3) := by decide +kernel
theorem dX4_stop_9 : decode cX4_stop 9 = .ok (.aload_n 0, 1) := by decide +kernel
theorem dX4_stop_10 : decode cX4_stop 10 = .ok (.getfield 10, 3) := by decide +kernel
theorem dX4_stop_13 : decode cX4_stop 13 = .ok (.getfield 119, 3) := by decide +kernel
theorem dX4_stop_16 : decode cX4_stop 16 = .ok (.iload_n 1, 1) := by decide +kernel
theorem dX4_stop_17 : decode cX4_stop 17 = .ok (.aaload, 1) := by decide +kernel
theorem dX4_stop_18 : decode cX4_stop 18 = .ok (.astore 4, 2) := by decide +kernel
theorem dX4_stop_20 : decode cX4_stop 20 = .ok (.aload 4, 2) := by decide +kernel
theorem dX4_stop_22 : decode cX4_stop 22 = .ok (.getfield 146, 3) := by decide +kernel
theorem dX4_stop_25 : decode cX4_stop 25 = .ok (.iconst 1, 1) := by decide +kernel
theorem dX4_stop_26 : decode cX4_stop 26 = .ok (.isub, 1) := by decide +kernel
theorem dX4_stop_27 : decode cX4_stop 27 = .ok (.istore 5, 2) := by decide +kernel
theorem dX4_stop_29 : decode cX4_stop 29 = .ok (.iload_n 3, 1) := by decide +kernel
theorem dX4_stop_30 : decode cX4_stop 30 = .ok (.iconst 0, 1) := by decide +kernel
theorem dX4_stop_31 : decode cX4_stop 31 = .ok (.sipush 9999, 3) := by decide +kernel
theorem dX4_stop_34 : decode cX4_stop 34 = .ok (.invokestatic 23, 3) := by decide +kernel
theorem dX4_stop_37 : decode cX4_stop 37 = .ok (.iload_n 3, 1) := by decide +kernel
theorem dX4_stop_38 : decode cX4_stop 38 = .ok (.aload 4, 2) := by decide +kernel
theorem dX4_stop_40 : decode cX4_stop 40 = .ok (.iload 5, 2) := by decide +kernel
theorem dX4_stop_42 : decode cX4_stop 42 = .ok (.invokevirtual 149, 3) := by decide +kernel
theorem dX4_stop_45 : decode cX4_stop 45 = .ok (.if_icmp .lt 14, 3) := by decide +kernel
theorem dX4_stop_48 : decode cX4_stop 48 = .ok (.iload_n 2, 1) := by decide +kernel
theorem dX4_stop_49 : decode cX4_stop 49 = .ok (.aload 4, 2) := by decide +kernel
theorem dX4_stop_51 : decode cX4_stop 51 = .ok (.iload 5, 2) := by decide +kernel
theorem dX4_stop_53 : decode cX4_stop 53 = .ok (.invokevirtual 152, 3) := by decide +kernel
theorem dX4_stop_56 : decode cX4_stop 56 = .ok (.if_icmp .ne 13, 3) := by decide +kernel
theorem dX4_stop_59 : decode cX4_stop 59 = .ok (.new 54, 3) := by decide +kernel
theorem dX4_stop_62 : decode cX4_stop 62 = .ok (.dup, 1) := by decide +kernel
theorem dX4_stop_63 : decode cX4_stop 63 = .ok (.ldc 155, 2) := by decide +kernel
theorem dX4_stop_65 : decode cX4_stop 65 = .ok (.invokespecial 58, 3) := by decide +kernel
theorem dX4_stop_68 : decode cX4_stop 68 = .ok (.athrow, 1) := by decide +kernel
theorem dX4_stop_69 : decode cX4_stop 69 = .ok (.aload 4, 2) := by decide +kernel
theorem dX4_stop_71 : decode cX4_stop 71 = .ok (.getfield 146, 3) := by decide +kernel
theorem dX4_stop_74 : decode cX4_stop 74 = .ok (.bipush 8, 2) := by decide +kernel
theorem dX4_stop_76 : decode cX4_stop 76 = .ok (.if_icmp .ge 11, 3) := by decide +kernel
theorem dX4_stop_79 : decode cX4_stop 79 = .ok (.aload 4, 2) := by decide +kernel
theorem dX4_stop_81 : decode cX4_stop 81 = .ok (.invokevirtual 157, 3) := by decide +kernel
theorem dX4_stop_84 : decode cX4_stop 84 = .ok (.ifCond .eq 13, 3) := by decide +kernel
theorem dX4_stop_87 : decode cX4_stop 87 = .ok (.new 35, 3) := by decide +kernel
theorem dX4_stop_90 : decode cX4_stop 90 = .ok (.dup, 1) := by decide +kernel
theorem dX4_stop_91 : decode cX4_stop 91 = .ok (.ldc 161, 2) := by decide +kernel
theorem dX4_stop_93 : decode cX4_stop 93 = .ok (.invokespecial 39, 3) := by decide +kernel
theorem dX4_stop_96 : decode cX4_stop 96 = .ok (.athrow, 1) := by decide +kernel
theorem dX4_stop_97 : decode cX4_stop 97 = .ok (.aload 4, 2) := by decide +kernel
theorem dX4_stop_99 : decode cX4_stop 99 = .ok (.iload_n 2, 1) := by decide +kernel
theorem dX4_stop_100 : decode cX4_stop 100 = .ok (.iload_n 3, 1) := by decide +kernel
theorem dX4_stop_101 : decode cX4_stop 101 = .ok (.invokevirtual 140, 3) := by decide +kernel
theorem dX4_stop_104 : decode cX4_stop 104 = .ok (.aload 4, 2) := by decide +kernel
theorem dX4_stop_106 : decode cX4_stop 106 = .ok (.getfield 146, 3) := by decide +kernel
theorem dX4_stop_109 : decode cX4_stop 109 = .ok (.ireturn, 1) := by decide +kernel
theorem dX4_tick_0 : decode cX4_tick 0 = .ok (.iload_n 1, 1) := by decide +kernel
theorem dX4_tick_1 : decode cX4_tick 1 = .ok (.iconst 1, 1) := by decide +kernel
theorem dX4_tick_2 : decode cX4_tick 2 = .ok (.bipush 60, 2) := by decide +kernel
theorem dX4_tick_4 : decode cX4_tick 4 = .ok (.invokestatic 23, 3) := by decide +kernel
theorem dX4_tick_7 : decode cX4_tick 7 = .ok (.aload_n 0, 1) := by decide +kernel
theorem dX4_tick_8 : decode cX4_tick 8 = .ok (.getfield 10, 3) := by decide +kernel
theorem dX4_tick_11 : decode cX4_tick 11 = .ok (.iload_n 1, 1) := by decide +kernel
theorem dX4_tick_12 : decode cX4_tick 12 = .ok (.invokevirtual 166, 3) := by decide +kernel
theorem dX4_tick_15 : decode cX4_tick 15 = .ok (.aload_n 0, 1) := by decide +kernel
theorem dX4_tick_16 : decode cX4_tick 16 = .ok (.getfield 10, 3) := by decide +kernel
theorem dX4_tick_19 : decode cX4_tick 19 = .ok (.getfield 111, 3) := by decide +kernel
theorem dX4_tick_22 : decode cX4_tick 22 = .ok (.aload_n 0, 1) := by decide +kernel
theorem dX4_tick_23 : decode cX4_tick 23 = .ok (.getfield 10, 3) := by decide +kernel
theorem dX4_tick_26 : decode cX4_tick 26 = .ok (.invokevirtual 169, 3) := by decide +kernel
theorem dX4_tick_29 : decode cX4_tick 29 = .ok (.isub, 1) := by decide +kernel
theorem dX4_tick_30 : decode cX4_tick 30 = .ok (.ireturn, 1) := by decide +kernel
theorem dX4_clock_0 : decode cX4_clock 0 = .ok (.aload_n 0, 1) := by decide +kernel
theorem dX4_clock_1 : decode cX4_clock 1 = .ok (.getfield 10, 3) := by decide +kernel
theorem dX4_clock_4 : decode cX4_clock 4 = .ok (.getfield 134, 3) := by decide +kernel
theorem dX4_clock_7 : decode cX4_clock 7 = .ok (.ireturn, 1) := by decide +kernel
theorem dX4_many_0 : decode cX4_many 0 = .ok (.iload_n 1, 1) := by decide +kernel
theorem dX4_many_1 : decode cX4_many 1 = .ok (.iconst 0, 1) := by decide +kernel
theorem dX4_many_2 : decode cX4_many 2 = .ok (.bipush 6, 2) := by decide +kernel
theorem dX4_many_4 : decode cX4_many 4 = .ok (.invokestatic 23, 3) := by decide +kernel
theorem dX4_many_7 : decode cX4_many 7 = .ok (.iload_n 1, 1) := by decide +kernel
theorem dX4_many_8 : decode cX4_many 8 = .ok (.tableswitch 88 0 5 #[40, 48, 56, 64, 72, 80], 40) := by decide +kernel
theorem dX4_many_48 : decode cX4_many 48 = .ok (.aload_n 0, 1) := by decide +kernel
theorem dX4_many_49 : decode cX4_many 49 = .ok (.getfield 10, 3) := by decide +kernel
theorem dX4_many_52 : decode cX4_many 52 = .ok (.getfield 31, 3) := by decide +kernel
theorem dX4_many_55 : decode cX4_many 55 = .ok (.ireturn, 1) := by decide +kernel
theorem dX4_many_56 : decode cX4_many 56 = .ok (.aload_n 0, 1) := by decide +kernel
theorem dX4_many_57 : decode cX4_many 57 = .ok (.getfield 10, 3) := by decide +kernel
theorem dX4_many_60 : decode cX4_many 60 = .ok (.getfield 59, 3) := by decide +kernel
theorem dX4_many_63 : decode cX4_many 63 = .ok (.ireturn, 1) := by decide +kernel
theorem dX4_many_64 : decode cX4_many 64 = .ok (.aload_n 0, 1) := by decide +kernel
theorem dX4_many_65 : decode cX4_many 65 = .ok (.getfield 10, 3) := by decide +kernel
theorem dX4_many_68 : decode cX4_many 68 = .ok (.getfield 111, 3) := by decide +kernel
theorem dX4_many_71 : decode cX4_many 71 = .ok (.ireturn, 1) := by decide +kernel
theorem dX4_many_72 : decode cX4_many 72 = .ok (.aload_n 0, 1) := by decide +kernel
theorem dX4_many_73 : decode cX4_many 73 = .ok (.getfield 10, 3) := by decide +kernel
theorem dX4_many_76 : decode cX4_many 76 = .ok (.invokevirtual 169, 3) := by decide +kernel
theorem dX4_many_79 : decode cX4_many 79 = .ok (.ireturn, 1) := by decide +kernel
theorem dX4_many_80 : decode cX4_many 80 = .ok (.aload_n 0, 1) := by decide +kernel
theorem dX4_many_81 : decode cX4_many 81 = .ok (.getfield 10, 3) := by decide +kernel
theorem dX4_many_84 : decode cX4_many 84 = .ok (.invokevirtual 173, 3) := by decide +kernel
theorem dX4_many_87 : decode cX4_many 87 = .ok (.ireturn, 1) := by decide +kernel
theorem dX4_many_88 : decode cX4_many 88 = .ok (.aload_n 0, 1) := by decide +kernel
theorem dX4_many_89 : decode cX4_many 89 = .ok (.getfield 10, 3) := by decide +kernel
theorem dX4_many_92 : decode cX4_many 92 = .ok (.invokevirtual 176, 3) := by decide +kernel
theorem dX4_many_95 : decode cX4_many 95 = .ok (.ireturn, 1) := by decide +kernel
theorem dX4_many_96 : decode cX4_many 96 = .ok (.aload_n 0, 1) := by decide +kernel
theorem dX4_many_97 : decode cX4_many 97 = .ok (.getfield 10, 3) := by decide +kernel
theorem dX4_many_100 : decode cX4_many 100 = .ok (.invokevirtual 179, 3) := by decide +kernel
theorem dX4_many_103 : decode cX4_many 103 = .ok (.ireturn, 1) := by decide +kernel
theorem dX4_station_0 : decode cX4_station 0 = .ok (.iload_n 1, 1) := by decide +kernel
theorem dX4_station_1 : decode cX4_station 1 = .ok (.invokestatic 19, 3) := by decide +kernel
theorem dX4_station_4 : decode cX4_station 4 = .ok (.iload_n 2, 1) := by decide +kernel
theorem dX4_station_5 : decode cX4_station 5 = .ok (.iconst 0, 1) := by decide +kernel
theorem dX4_station_6 : decode cX4_station 6 = .ok (.iconst 2, 1) := by decide +kernel
theorem dX4_station_7 : decode cX4_station 7 = .ok (.invokestatic 23, 3) := by decide +kernel
theorem dX4_station_10 : decode cX4_station 10 = .ok (.iload_n 2, 1) := by decide +kernel
theorem dX4_station_11 : decode cX4_station 11 = .ok (.lookupswitch 44 #[(0, 25), (1, 35)], 25) := by decide +kernel
theorem dX4_station_36 : decode cX4_station 36 = .ok (.aload_n 0, 1) := by decide +kernel
theorem dX4_station_37 : decode cX4_station 37 = .ok (.getfield 10, 3) := by decide +kernel
theorem dX4_station_40 : decode cX4_station 40 = .ok (.getfield 27, 3) := by decide +kernel
theorem dX4_station_43 : decode cX4_station 43 = .ok (.iload_n 1, 1) := by decide +kernel
theorem dX4_station_44 : decode cX4_station 44 = .ok (.iaload, 1) := by decide +kernel
theorem dX4_station_45 : decode cX4_station 45 = .ok (.ireturn, 1) := by decide +kernel
theorem dX4_station_46 : decode cX4_station 46 = .ok (.aload_n 0, 1) := by decide +kernel
theorem dX4_station_47 : decode cX4_station 47 = .ok (.getfield 10, 3) := by decide +kernel
theorem dX4_station_50 : decode cX4_station 50 = .ok (.iload_n 1, 1) := by decide +kernel
theorem dX4_station_51 : decode cX4_station 51 = .ok (.invokevirtual 182, 3) := by decide +kernel
theorem dX4_station_54 : decode cX4_station 54 = .ok (.ireturn, 1) := by decide +kernel
theorem dX4_station_55 : decode cX4_station 55 = .ok (.aload_n 0, 1) := by decide +kernel
theorem dX4_station_56 : decode cX4_station 56 = .ok (.getfield 10, 3) := by decide +kernel
theorem dX4_station_59 : decode cX4_station 59 = .ok (.iload_n 1, 1) := by decide +kernel
theorem dX4_station_60 : decode cX4_station 60 = .ok (.invokevirtual 185, 3) := by decide +kernel
theorem dX4_station_63 : decode cX4_station 63 = .ok (.ireturn, 1) := by decide +kernel
theorem dX4_ofBlock_0 : decode cX4_ofBlock 0 = .ok (.aload_n 0, 1) := by decide +kernel
theorem dX4_ofBlock_1 : decode cX4_ofBlock 1 = .ok (.iload_n 1, 1) := by decide +kernel
theorem dX4_ofBlock_2 : decode cX4_ofBlock 2 = .ok (.invokevirtual 51, 3) := by decide +kernel
theorem dX4_ofBlock_5 : decode cX4_ofBlock 5 = .ok (.iload_n 2, 1) := by decide +kernel
theorem dX4_ofBlock_6 : decode cX4_ofBlock 6 = .ok (.iconst 0, 1) := by decide +kernel
theorem dX4_ofBlock_7 : decode cX4_ofBlock 7 = .ok (.iconst 3, 1) := by decide +kernel
theorem dX4_ofBlock_8 : decode cX4_ofBlock 8 = .ok (.invokestatic 23, 3) := by decide +kernel
theorem dX4_ofBlock_11 : decode cX4_ofBlock 11 = .ok (.aload_n 0, 1) := by decide +kernel
theorem dX4_ofBlock_12 : decode cX4_ofBlock 12 = .ok (.getfield 10, 3) := by decide +kernel
theorem dX4_ofBlock_15 : decode cX4_ofBlock 15 = .ok (.getfield 42, 3) := by decide +kernel
theorem dX4_ofBlock_18 : decode cX4_ofBlock 18 = .ok (.iload_n 1, 1) := by decide +kernel
theorem dX4_ofBlock_19 : decode cX4_ofBlock 19 = .ok (.aaload, 1) := by decide +kernel
theorem dX4_ofBlock_20 : decode cX4_ofBlock 20 = .ok (.astore_n 3, 1) := by decide +kernel
theorem dX4_ofBlock_21 : decode cX4_ofBlock 21 = .ok (.iload_n 2, 1) := by decide +kernel
theorem dX4_ofBlock_22 : decode cX4_ofBlock 22 = .ok (.tableswitch 41 0 2 #[26, 31, 36], 26) := by decide +kernel
theorem dX4_ofBlock_48 : decode cX4_ofBlock 48 = .ok (.aload_n 3, 1) := by decide +kernel
theorem dX4_ofBlock_49 : decode cX4_ofBlock 49 = .ok (.getfield 46, 3) := by decide +kernel
theorem dX4_ofBlock_52 : decode cX4_ofBlock 52 = .ok (.ireturn, 1) := by decide +kernel
theorem dX4_ofBlock_53 : decode cX4_ofBlock 53 = .ok (.aload_n 3, 1) := by decide +kernel
theorem dX4_ofBlock_54 : decode cX4_ofBlock 54 = .ok (.getfield 188, 3) := by decide +kernel
theorem dX4_ofBlock_57 : decode cX4_ofBlock 57 = .ok (.ireturn, 1) := by decide +kernel
theorem dX4_ofBlock_58 : decode cX4_ofBlock 58 = .ok (.aload_n 3, 1) := by decide +kernel
theorem dX4_ofBlock_59 : decode cX4_ofBlock 59 = .ok (.getfield 191, 3) := by decide +kernel
theorem dX4_ofBlock_62 : decode cX4_ofBlock 62 = .ok (.ireturn, 1) := by decide +kernel
theorem dX4_ofBlock_63 : decode cX4_ofBlock 63 = .ok (.aload_n 0, 1) := by decide +kernel
theorem dX4_ofBlock_64 : decode cX4_ofBlock 64 = .ok (.getfield 10, 3) := by decide +kernel
theorem dX4_ofBlock_67 : decode cX4_ofBlock 67 = .ok (.aload_n 3, 1) := by decide +kernel
theorem dX4_ofBlock_68 : decode cX4_ofBlock 68 = .ok (.getfield 98, 3) := by decide +kernel
theorem dX4_ofBlock_71 : decode cX4_ofBlock 71 = .ok (.invokevirtual 101, 3) := by decide +kernel
theorem dX4_ofBlock_74 : decode cX4_ofBlock 74 = .ok (.ireturn, 1) := by decide +kernel
theorem dX4_onRoute_0 : decode cX4_onRoute 0 = .ok (.aload_n 0, 1) := by decide +kernel
theorem dX4_onRoute_1 : decode cX4_onRoute 1 = .ok (.iload_n 1, 1) := by decide +kernel
theorem dX4_onRoute_2 : decode cX4_onRoute 2 = .ok (.invokevirtual 77, 3) := by decide +kernel
theorem dX4_onRoute_5 : decode cX4_onRoute 5 = .ok (.iload_n 2, 1) := by decide +kernel
theorem dX4_onRoute_6 : decode cX4_onRoute 6 = .ok (.aload_n 0, 1) := by decide +kernel
theorem dX4_onRoute_7 : decode cX4_onRoute 7 = .ok (.getfield 10, 3) := by decide +kernel
theorem dX4_onRoute_10 : decode cX4_onRoute 10 = .ok (.getfield 64, 3) := by decide +kernel
theorem dX4_onRoute_13 : decode cX4_onRoute 13 = .ok (.iload_n 1, 1) := by decide +kernel
theorem dX4_onRoute_14 : decode cX4_onRoute 14 = .ok (.aaload, 1) := by decide +kernel
theorem dX4_onRoute_15 : decode cX4_onRoute 15 = .ok (.getfield 86, 3) := by decide +kernel
theorem dX4_onRoute_18 : decode cX4_onRoute 18 = .ok (.invokestatic 194, 3) := by decide +kernel
theorem dX4_onRoute_21 : decode cX4_onRoute 21 = .ok (.aload_n 0, 1) := by decide +kernel
theorem dX4_onRoute_22 : decode cX4_onRoute 22 = .ok (.getfield 10, 3) := by decide +kernel
theorem dX4_onRoute_25 : decode cX4_onRoute 25 = .ok (.getfield 64, 3) := by decide +kernel
theorem dX4_onRoute_28 : decode cX4_onRoute 28 = .ok (.iload_n 1, 1) := by decide +kernel
theorem dX4_onRoute_29 : decode cX4_onRoute 29 = .ok (.aaload, 1) := by decide +kernel
theorem dX4_onRoute_30 : decode cX4_onRoute 30 = .ok (.iload_n 2, 1) := by decide +kernel
theorem dX4_onRoute_31 : decode cX4_onRoute 31 = .ok (.invokevirtual 197, 3) := by decide +kernel
theorem dX4_onRoute_34 : decode cX4_onRoute 34 = .ok (.ireturn, 1) := by decide +kernel
theorem dX4_ofRoute_0 : decode cX4_ofRoute 0 = .ok (.aload_n 0, 1) := by decide +kernel
theorem dX4_ofRoute_1 : decode cX4_ofRoute 1 = .ok (.iload_n 1, 1) := by decide +kernel
theorem dX4_ofRoute_2 : decode cX4_ofRoute 2 = .ok (.invokevirtual 77, 3) := by decide +kernel
theorem dX4_ofRoute_5 : decode cX4_ofRoute 5 = .ok (.iload_n 2, 1) := by decide +kernel
theorem dX4_ofRoute_6 : decode cX4_ofRoute 6 = .ok (.iconst 0, 1) := by decide +kernel
theorem dX4_ofRoute_7 : decode cX4_ofRoute 7 = .ok (.iconst 4, 1) := by decide +kernel
theorem dX4_ofRoute_8 : decode cX4_ofRoute 8 = .ok (.invokestatic 23, 3) := by decide +kernel
theorem dX4_ofRoute_11 : decode cX4_ofRoute 11 = .ok (.aload_n 0, 1) := by decide +kernel
theorem dX4_ofRoute_12 : decode cX4_ofRoute 12 = .ok (.getfield 10, 3) := by decide +kernel
theorem dX4_ofRoute_15 : decode cX4_ofRoute 15 = .ok (.getfield 64, 3) := by decide +kernel
theorem dX4_ofRoute_18 : decode cX4_ofRoute 18 = .ok (.iload_n 1, 1) := by decide +kernel
theorem dX4_ofRoute_19 : decode cX4_ofRoute 19 = .ok (.aaload, 1) := by decide +kernel
theorem dX4_ofRoute_20 : decode cX4_ofRoute 20 = .ok (.astore_n 3, 1) := by decide +kernel
theorem dX4_ofRoute_21 : decode cX4_ofRoute 21 = .ok (.iload_n 2, 1) := by decide +kernel
theorem dX4_ofRoute_22 : decode cX4_ofRoute 22 = .ok (.tableswitch 53 0 3 #[30, 35, 40, 45], 30) := by decide +kernel
theorem dX4_ofRoute_52 : decode cX4_ofRoute 52 = .ok (.aload_n 3, 1) := by decide +kernel
theorem dX4_ofRoute_53 : decode cX4_ofRoute 53 = .ok (.getfield 200, 3) := by decide +kernel
theorem dX4_ofRoute_56 : decode cX4_ofRoute 56 = .ok (.ireturn, 1) := by decide +kernel
theorem dX4_ofRoute_57 : decode cX4_ofRoute 57 = .ok (.aload_n 3, 1) := by decide +kernel
theorem dX4_ofRoute_58 : decode cX4_ofRoute 58 = .ok (.getfield 203, 3) := by decide +kernel
theorem dX4_ofRoute_61 : decode cX4_ofRoute 61 = .ok (.ireturn, 1) := by decide +kernel
theorem dX4_ofRoute_62 : decode cX4_ofRoute 62 = .ok (.aload_n 3, 1) := by decide +kernel
theorem dX4_ofRoute_63 : decode cX4_ofRoute 63 = .ok (.getfield 86, 3) := by decide +kernel
theorem dX4_ofRoute_66 : decode cX4_ofRoute 66 = .ok (.ireturn, 1) := by decide +kernel
theorem dX4_ofRoute_67 : decode cX4_ofRoute 67 = .ok (.aload_n 3, 1) := by decide +kernel
theorem dX4_ofRoute_68 : decode cX4_ofRoute 68 = .ok (.getfield 206, 3) := by decide +kernel
theorem dX4_ofRoute_71 : decode cX4_ofRoute 71 = .ok (.invokestatic 210, 3) := by decide +kernel
theorem dX4_ofRoute_74 : decode cX4_ofRoute 74 = .ok (.ireturn, 1) := by decide +kernel
theorem dX4_ofRoute_75 : decode cX4_ofRoute 75 = .ok (.aload_n 0, 1) := by decide +kernel
theorem dX4_ofRoute_76 : decode cX4_ofRoute 76 = .ok (.getfield 10, 3) := by decide +kernel
theorem dX4_ofRoute_79 : decode cX4_ofRoute 79 = .ok (.aload_n 3, 1) := by decide +kernel
theorem dX4_ofRoute_80 : decode cX4_ofRoute 80 = .ok (.invokevirtual 214, 3) := by decide +kernel
theorem dX4_ofRoute_83 : decode cX4_ofRoute 83 = .ok (.ireturn, 1) := by decide +kernel
theorem dX4_ofTrain_0 : decode cX4_ofTrain 0 = .ok (.aload_n 0, 1) := by decide +kernel
theorem dX4_ofTrain_1 : decode cX4_ofTrain 1 = .ok (.iload_n 1, 1) := by decide +kernel
theorem dX4_ofTrain_2 : decode cX4_ofTrain 2 = .ok (.invokevirtual 143, 3) := by decide +kernel
theorem dX4_ofTrain_5 : decode cX4_ofTrain 5 = .ok (.iload_n 2, 1) := by decide +kernel
theorem dX4_ofTrain_6 : decode cX4_ofTrain 6 = .ok (.iconst 0, 1) := by decide +kernel
theorem dX4_ofTrain_7 : decode cX4_ofTrain 7 = .ok (.bipush 12, 2) := by decide +kernel
theorem dX4_ofTrain_9 : decode cX4_ofTrain 9 = .ok (.invokestatic 23, 3) := by decide +kernel
theorem dX4_ofTrain_12 : decode cX4_ofTrain 12 = .ok (.aload_n 0, 1) := by decide +kernel
theorem dX4_ofTrain_13 : decode cX4_ofTrain 13 = .ok (.getfield 10, 3) := by decide +kernel
theorem dX4_ofTrain_16 : decode cX4_ofTrain 16 = .ok (.getfield 119, 3) := by decide +kernel
theorem dX4_ofTrain_19 : decode cX4_ofTrain 19 = .ok (.iload_n 1, 1) := by decide +kernel
theorem dX4_ofTrain_20 : decode cX4_ofTrain 20 = .ok (.aaload, 1) := by decide +kernel
theorem dX4_ofTrain_21 : decode cX4_ofTrain 21 = .ok (.astore_n 3, 1) := by decide +kernel
theorem dX4_ofTrain_22 : decode cX4_ofTrain 22 = .ok (.iload_n 2, 1) := by decide +kernel
theorem dX4_ofTrain_23 : decode cX4_ofTrain 23 = .ok (.tableswitch 135 0 11 #[61, 66, 71, 76, 81, 86, 95, 100, 105, 110, 115, 127], 61) := by decide +kernel
theorem dX4_ofTrain_84 : decode cX4_ofTrain 84 = .ok (.aload_n 3, 1) := by decide +kernel
theorem dX4_ofTrain_85 : decode cX4_ofTrain 85 = .ok (.getfield 123, 3) := by decide +kernel
theorem dX4_ofTrain_88 : decode cX4_ofTrain 88 = .ok (.ireturn, 1) := by decide +kernel
theorem dX4_ofTrain_89 : decode cX4_ofTrain 89 = .ok (.aload_n 3, 1) := by decide +kernel
theorem dX4_ofTrain_90 : decode cX4_ofTrain 90 = .ok (.getfield 128, 3) := by decide +kernel
theorem dX4_ofTrain_93 : decode cX4_ofTrain 93 = .ok (.ireturn, 1) := by decide +kernel
theorem dX4_ofTrain_94 : decode cX4_ofTrain 94 = .ok (.aload_n 3, 1) := by decide +kernel
theorem dX4_ofTrain_95 : decode cX4_ofTrain 95 = .ok (.getfield 146, 3) := by decide +kernel
theorem dX4_ofTrain_98 : decode cX4_ofTrain 98 = .ok (.ireturn, 1) := by decide +kernel
theorem dX4_ofTrain_99 : decode cX4_ofTrain 99 = .ok (.aload_n 3, 1) := by decide +kernel
theorem dX4_ofTrain_100 : decode cX4_ofTrain 100 = .ok (.getfield 218, 3) := by decide +kernel
theorem dX4_ofTrain_103 : decode cX4_ofTrain 103 = .ok (.ireturn, 1) := by decide +kernel
theorem dX4_ofTrain_104 : decode cX4_ofTrain 104 = .ok (.aload_n 3, 1) := by decide +kernel
theorem dX4_ofTrain_105 : decode cX4_ofTrain 105 = .ok (.getfield 131, 3) := by decide +kernel
theorem dX4_ofTrain_108 : decode cX4_ofTrain 108 = .ok (.ireturn, 1) := by decide +kernel
theorem dX4_ofTrain_109 : decode cX4_ofTrain 109 = .ok (.aload_n 0, 1) := by decide +kernel
theorem dX4_ofTrain_110 : decode cX4_ofTrain 110 = .ok (.getfield 10, 3) := by decide +kernel
theorem dX4_ofTrain_113 : decode cX4_ofTrain 113 = .ok (.aload_n 3, 1) := by decide +kernel
theorem dX4_ofTrain_114 : decode cX4_ofTrain 114 = .ok (.invokevirtual 221, 3) := by decide +kernel
theorem dX4_ofTrain_117 : decode cX4_ofTrain 117 = .ok (.ireturn, 1) := by decide +kernel
theorem dX4_ofTrain_118 : decode cX4_ofTrain 118 = .ok (.aload_n 3, 1) := by decide +kernel
theorem dX4_ofTrain_119 : decode cX4_ofTrain 119 = .ok (.getfield 225, 3) := by decide +kernel
theorem dX4_ofTrain_122 : decode cX4_ofTrain 122 = .ok (.ireturn, 1) := by decide +kernel
theorem dX4_ofTrain_123 : decode cX4_ofTrain 123 = .ok (.aload_n 3, 1) := by decide +kernel
theorem dX4_ofTrain_124 : decode cX4_ofTrain 124 = .ok (.getfield 228, 3) := by decide +kernel
theorem dX4_ofTrain_127 : decode cX4_ofTrain 127 = .ok (.ireturn, 1) := by decide +kernel
theorem dX4_ofTrain_128 : decode cX4_ofTrain 128 = .ok (.aload_n 3, 1) := by decide +kernel
theorem dX4_ofTrain_129 : decode cX4_ofTrain 129 = .ok (.getfield 231, 3) := by decide +kernel
theorem dX4_ofTrain_132 : decode cX4_ofTrain 132 = .ok (.ireturn, 1) := by decide +kernel
theorem dX4_ofTrain_133 : decode cX4_ofTrain 133 = .ok (.aload_n 3, 1) := by decide +kernel
theorem dX4_ofTrain_134 : decode cX4_ofTrain 134 = .ok (.getfield 234, 3) := by decide +kernel
theorem dX4_ofTrain_137 : decode cX4_ofTrain 137 = .ok (.ireturn, 1) := by decide +kernel
theorem dX4_ofTrain_138 : decode cX4_ofTrain 138 = .ok (.aload_n 0, 1) := by decide +kernel
theorem dX4_ofTrain_139 : decode cX4_ofTrain 139 = .ok (.getfield 10, 3) := by decide +kernel
theorem dX4_ofTrain_142 : decode cX4_ofTrain 142 = .ok (.aload_n 3, 1) := by decide +kernel
theorem dX4_ofTrain_143 : decode cX4_ofTrain 143 = .ok (.invokevirtual 237, 3) := by decide +kernel
theorem dX4_ofTrain_146 : decode cX4_ofTrain 146 = .ok (.invokestatic 210, 3) := by decide +kernel
theorem dX4_ofTrain_149 : decode cX4_ofTrain 149 = .ok (.ireturn, 1) := by decide +kernel
theorem dX4_ofTrain_150 : decode cX4_ofTrain 150 = .ok (.aload_n 3, 1) := by decide +kernel
theorem dX4_ofTrain_151 : decode cX4_ofTrain 151 = .ok (.invokevirtual 241, 3) := by decide +kernel
theorem dX4_ofTrain_154 : decode cX4_ofTrain 154 = .ok (.invokestatic 210, 3) := by decide +kernel
theorem dX4_ofTrain_157 : decode cX4_ofTrain 157 = .ok (.ireturn, 1) := by decide +kernel
theorem dX4_ofTrain_158 : decode cX4_ofTrain 158 = .ok (.aload_n 0, 1) := by decide +kernel
theorem dX4_ofTrain_159 : decode cX4_ofTrain 159 = .ok (.getfield 10, 3) := by decide +kernel
theorem dX4_ofTrain_162 : decode cX4_ofTrain 162 = .ok (.aload_n 3, 1) := by decide +kernel
theorem dX4_ofTrain_163 : decode cX4_ofTrain 163 = .ok (.getfield 163, 3) := by decide +kernel
theorem dX4_ofTrain_166 : decode cX4_ofTrain 166 = .ok (.invokevirtual 101, 3) := by decide +kernel
theorem dX4_ofTrain_169 : decode cX4_ofTrain 169 = .ok (.ireturn, 1) := by decide +kernel
theorem dX4_plan_0 : decode cX4_plan 0 = .ok (.aload_n 0, 1) := by decide +kernel
theorem dX4_plan_1 : decode cX4_plan 1 = .ok (.iload_n 1, 1) := by decide +kernel
theorem dX4_plan_2 : decode cX4_plan 2 = .ok (.invokevirtual 143, 3) := by decide +kernel
theorem dX4_plan_5 : decode cX4_plan 5 = .ok (.aload_n 0, 1) := by decide +kernel
theorem dX4_plan_6 : decode cX4_plan 6 = .ok (.getfield 10, 3) := by decide +kernel
theorem dX4_plan_9 : decode cX4_plan 9 = .ok (.getfield 119, 3) := by decide +kernel
theorem dX4_plan_12 : decode cX4_plan 12 = .ok (.iload_n 1, 1) := by decide +kernel
theorem dX4_plan_13 : decode cX4_plan 13 = .ok (.aaload, 1) := by decide +kernel
theorem dX4_plan_14 : decode cX4_plan 14 = .ok (.astore 4, 2) := by decide +kernel
theorem dX4_plan_16 : decode cX4_plan 16 = .ok (.iload_n 2, 1) := by decide +kernel
theorem dX4_plan_17 : decode cX4_plan 17 = .ok (.aload 4, 2) := by decide +kernel
theorem dX4_plan_19 : decode cX4_plan 19 = .ok (.getfield 146, 3) := by decide +kernel
theorem dX4_plan_22 : decode cX4_plan 22 = .ok (.invokestatic 194, 3) := by decide +kernel
theorem dX4_plan_25 : decode cX4_plan 25 = .ok (.iload_n 3, 1) := by decide +kernel
theorem dX4_plan_26 : decode cX4_plan 26 = .ok (.ifCond .eq 12, 3) := by decide +kernel
theorem dX4_plan_29 : decode cX4_plan 29 = .ok (.aload 4, 2) := by decide +kernel
theorem dX4_plan_31 : decode cX4_plan 31 = .ok (.iload_n 2, 1) := by decide +kernel
theorem dX4_plan_32 : decode cX4_plan 32 = .ok (.invokevirtual 149, 3) := by decide +kernel
theorem dX4_plan_35 : decode cX4_plan 35 = .ok (.goto 9, 3) := by decide +kernel
theorem dX4_plan_38 : decode cX4_plan 38 = .ok (.aload 4, 2) := by decide +kernel
theorem dX4_plan_40 : decode cX4_plan 40 = .ok (.iload_n 2, 1) := by decide +kernel
theorem dX4_plan_41 : decode cX4_plan 41 = .ok (.invokevirtual 152, 3) := by decide +kernel
theorem dX4_plan_44 : decode cX4_plan 44 = .ok (.ireturn, 1) := by decide +kernel
theorem dX4_waitedFor_0 : decode cX4_waitedFor 0 = .ok (.aload_n 0, 1) := by decide +kernel
theorem dX4_waitedFor_1 : decode cX4_waitedFor 1 = .ok (.iload_n 1, 1) := by decide +kernel
theorem dX4_waitedFor_2 : decode cX4_waitedFor 2 = .ok (.invokevirtual 143, 3) := by decide +kernel
theorem dX4_waitedFor_5 : decode cX4_waitedFor 5 = .ok (.aload_n 0, 1) := by decide +kernel
theorem dX4_waitedFor_6 : decode cX4_waitedFor 6 = .ok (.iload_n 2, 1) := by decide +kernel
theorem dX4_waitedFor_7 : decode cX4_waitedFor 7 = .ok (.invokevirtual 143, 3) := by decide +kernel
theorem dX4_waitedFor_10 : decode cX4_waitedFor 10 = .ok (.aload_n 0, 1) := by decide +kernel
theorem dX4_waitedFor_11 : decode cX4_waitedFor 11 = .ok (.getfield 10, 3) := by decide +kernel
theorem dX4_waitedFor_14 : decode cX4_waitedFor 14 = .ok (.getfield 119, 3) := by decide +kernel
theorem dX4_waitedFor_17 : decode cX4_waitedFor 17 = .ok (.iload_n 1, 1) := by decide +kernel
theorem dX4_waitedFor_18 : decode cX4_waitedFor 18 = .ok (.aaload, 1) := by decide +kernel
theorem dX4_waitedFor_19 : decode cX4_waitedFor 19 = .ok (.getfield 244, 3) := by decide +kernel
theorem dX4_waitedFor_22 : decode cX4_waitedFor 22 = .ok (.iload_n 2, 1) := by decide +kernel
theorem dX4_waitedFor_23 : decode cX4_waitedFor 23 = .ok (.iaload, 1) := by decide +kernel
theorem dX4_waitedFor_24 : decode cX4_waitedFor 24 = .ok (.ireturn, 1) := by decide +kernel
theorem dX4_waitsFor_0 : decode cX4_waitsFor 0 = .ok (.aload_n 0, 1) := by decide +kernel
theorem dX4_waitsFor_1 : decode cX4_waitsFor 1 = .ok (.iload_n 1, 1) := by decide +kernel
theorem dX4_waitsFor_2 : decode cX4_waitsFor 2 = .ok (.invokevirtual 143, 3) := by decide +kernel
theorem dX4_waitsFor_5 : decode cX4_waitsFor 5 = .ok (.aload_n 0, 1) := by decide +kernel
theorem dX4_waitsFor_6 : decode cX4_waitsFor 6 = .ok (.getfield 10, 3) := by decide +kernel
theorem dX4_waitsFor_9 : decode cX4_waitsFor 9 = .ok (.getfield 119, 3) := by decide +kernel
theorem dX4_waitsFor_12 : decode cX4_waitsFor 12 = .ok (.iload_n 1, 1) := by decide +kernel
theorem dX4_waitsFor_13 : decode cX4_waitsFor 13 = .ok (.aaload, 1) := by decide +kernel
theorem dX4_waitsFor_14 : decode cX4_waitsFor 14 = .ok (.getfield 247, 3) := by decide +kernel
theorem dX4_waitsFor_17 : decode cX4_waitsFor 17 = .ok (.ireturn, 1) := by decide +kernel
theorem dX4_isStuck_0 : decode cX4_isStuck 0 = .ok (.aload_n 0, 1) := by decide +kernel
theorem dX4_isStuck_1 : decode cX4_isStuck 1 = .ok (.iload_n 1, 1) := by decide +kernel
theorem dX4_isStuck_2 : decode cX4_isStuck 2 = .ok (.invokevirtual 143, 3) := by decide +kernel
theorem dX4_isStuck_5 : decode cX4_isStuck 5 = .ok (.aload_n 0, 1) := by decide +kernel
theorem dX4_isStuck_6 : decode cX4_isStuck 6 = .ok (.getfield 10, 3) := by decide +kernel
theorem dX4_isStuck_9 : decode cX4_isStuck 9 = .ok (.iload_n 1, 1) := by decide +kernel
theorem dX4_isStuck_10 : decode cX4_isStuck 10 = .ok (.invokevirtual 250, 3) := by decide +kernel
theorem dX4_isStuck_13 : decode cX4_isStuck 13 = .ok (.ireturn, 1) := by decide +kernel
theorem dX4_doneIn_0 : decode cX4_doneIn 0 = .ok (.aload_n 0, 1) := by decide +kernel
theorem dX4_doneIn_1 : decode cX4_doneIn 1 = .ok (.iload_n 1, 1) := by decide +kernel
theorem dX4_doneIn_2 : decode cX4_doneIn 2 = .ok (.invokevirtual 143, 3) := by decide +kernel
theorem dX4_doneIn_5 : decode cX4_doneIn 5 = .ok (.iload_n 2, 1) := by decide +kernel
theorem dX4_doneIn_6 : decode cX4_doneIn 6 = .ok (.iconst 1, 1) := by decide +kernel
theorem dX4_doneIn_7 : decode cX4_doneIn 7 = .ok (.bipush 120, 2) := by decide +kernel
theorem dX4_doneIn_9 : decode cX4_doneIn 9 = .ok (.invokestatic 23, 3) := by decide +kernel
theorem dX4_doneIn_12 : decode cX4_doneIn 12 = .ok (.aload_n 0, 1) := by decide +kernel
theorem dX4_doneIn_13 : decode cX4_doneIn 13 = .ok (.getfield 16, 3) := by decide +kernel
theorem dX4_doneIn_16 : decode cX4_doneIn 16 = .ok (.aload_n 0, 1) := by decide +kernel
theorem dX4_doneIn_17 : decode cX4_doneIn 17 = .ok (.getfield 10, 3) := by decide +kernel
theorem dX4_doneIn_20 : decode cX4_doneIn 20 = .ok (.invokevirtual 260, 3) := by decide +kernel
theorem dX4_doneIn_23 : decode cX4_doneIn 23 = .ok (.iconst 0, 1) := by decide +kernel
theorem dX4_doneIn_24 : decode cX4_doneIn 24 = .ok (.istore_n 3, 1) := by decide +kernel
theorem dX4_doneIn_25 : decode cX4_doneIn 25 = .ok (.iload_n 3, 1) := by decide +kernel
theorem dX4_doneIn_26 : decode cX4_doneIn 26 = .ok (.iload_n 2, 1) := by decide +kernel
theorem dX4_doneIn_27 : decode cX4_doneIn 27 = .ok (.if_icmp .ge 32, 3) := by decide +kernel
theorem dX4_doneIn_30 : decode cX4_doneIn 30 = .ok (.aload_n 0, 1) := by decide +kernel
theorem dX4_doneIn_31 : decode cX4_doneIn 31 = .ok (.getfield 16, 3) := by decide +kernel
theorem dX4_doneIn_34 : decode cX4_doneIn 34 = .ok (.getfield 119, 3) := by decide +kernel
theorem dX4_doneIn_37 : decode cX4_doneIn 37 = .ok (.iload_n 1, 1) := by decide +kernel
theorem dX4_doneIn_38 : decode cX4_doneIn 38 = .ok (.aaload, 1) := by decide +kernel
theorem dX4_doneIn_39 : decode cX4_doneIn 39 = .ok (.invokevirtual 157, 3) := by decide +kernel
theorem dX4_doneIn_42 : decode cX4_doneIn 42 = .ok (.ifCond .ne 17, 3) := by decide +kernel
theorem dX4_doneIn_45 : decode cX4_doneIn 45 = .ok (.aload_n 0, 1) := by decide +kernel
theorem dX4_doneIn_46 : decode cX4_doneIn 46 = .ok (.getfield 16, 3) := by decide +kernel
theorem dX4_doneIn_49 : decode cX4_doneIn 49 = .ok (.iconst 1, 1) := by decide +kernel
theorem dX4_doneIn_50 : decode cX4_doneIn 50 = .ok (.invokevirtual 166, 3) := by decide +kernel
theorem dX4_doneIn_53 : decode cX4_doneIn 53 = .ok (.iinc 3 1, 3) := by decide +kernel
theorem dX4_doneIn_56 : decode cX4_doneIn 56 = .ok (.goto (-31), 3) := by decide +kernel
theorem dX4_doneIn_59 : decode cX4_doneIn 59 = .ok (.aload_n 0, 1) := by decide +kernel
theorem dX4_doneIn_60 : decode cX4_doneIn 60 = .ok (.getfield 16, 3) := by decide +kernel
theorem dX4_doneIn_63 : decode cX4_doneIn 63 = .ok (.getfield 119, 3) := by decide +kernel
theorem dX4_doneIn_66 : decode cX4_doneIn 66 = .ok (.iload_n 1, 1) := by decide +kernel
theorem dX4_doneIn_67 : decode cX4_doneIn 67 = .ok (.aaload, 1) := by decide +kernel
theorem dX4_doneIn_68 : decode cX4_doneIn 68 = .ok (.invokevirtual 157, 3) := by decide +kernel
theorem dX4_doneIn_71 : decode cX4_doneIn 71 = .ok (.ifCond .eq 7, 3) := by decide +kernel
theorem dX4_doneIn_74 : decode cX4_doneIn 74 = .ok (.iload_n 3, 1) := by decide +kernel
theorem dX4_doneIn_75 : decode cX4_doneIn 75 = .ok (.goto 4, 3) := by decide +kernel
theorem dX4_doneIn_78 : decode cX4_doneIn 78 = .ok (.iconst (-1), 1) := by decide +kernel
theorem dX4_doneIn_79 : decode cX4_doneIn 79 = .ok (.ireturn, 1) := by decide +kernel
theorem dX4_stuckIn_0 : decode cX4_stuckIn 0 = .ok (.iload_n 1, 1) := by decide +kernel
theorem dX4_stuckIn_1 : decode cX4_stuckIn 1 = .ok (.iconst 1, 1) := by decide +kernel
theorem dX4_stuckIn_2 : decode cX4_stuckIn 2 = .ok (.bipush 120, 2) := by decide +kernel
theorem dX4_stuckIn_4 : decode cX4_stuckIn 4 = .ok (.invokestatic 23, 3) := by decide +kernel
theorem dX4_stuckIn_7 : decode cX4_stuckIn 7 = .ok (.aload_n 0, 1) := by decide +kernel
theorem dX4_stuckIn_8 : decode cX4_stuckIn 8 = .ok (.getfield 16, 3) := by decide +kernel
theorem dX4_stuckIn_11 : decode cX4_stuckIn 11 = .ok (.aload_n 0, 1) := by decide +kernel
theorem dX4_stuckIn_12 : decode cX4_stuckIn 12 = .ok (.getfield 10, 3) := by decide +kernel
theorem dX4_stuckIn_15 : decode cX4_stuckIn 15 = .ok (.invokevirtual 260, 3) := by decide +kernel
theorem dX4_stuckIn_18 : decode cX4_stuckIn 18 = .ok (.iconst 0, 1) := by decide +kernel
theorem dX4_stuckIn_19 : decode cX4_stuckIn 19 = .ok (.istore_n 2, 1) := by decide +kernel
theorem dX4_stuckIn_20 : decode cX4_stuckIn 20 = .ok (.iload_n 2, 1) := by decide +kernel
theorem dX4_stuckIn_21 : decode cX4_stuckIn 21 = .ok (.iload_n 1, 1) := by decide +kernel
theorem dX4_stuckIn_22 : decode cX4_stuckIn 22 = .ok (.if_icmp .ge 27, 3) := by decide +kernel
theorem dX4_stuckIn_25 : decode cX4_stuckIn 25 = .ok (.aload_n 0, 1) := by decide +kernel
theorem dX4_stuckIn_26 : decode cX4_stuckIn 26 = .ok (.getfield 16, 3) := by decide +kernel
theorem dX4_stuckIn_29 : decode cX4_stuckIn 29 = .ok (.invokevirtual 179, 3) := by decide +kernel
theorem dX4_stuckIn_32 : decode cX4_stuckIn 32 = .ok (.ifCond .ne 17, 3) := by decide +kernel
theorem dX4_stuckIn_35 : decode cX4_stuckIn 35 = .ok (.aload_n 0, 1) := by decide +kernel
theorem dX4_stuckIn_36 : decode cX4_stuckIn 36 = .ok (.getfield 16, 3) := by decide +kernel
theorem dX4_stuckIn_39 : decode cX4_stuckIn 39 = .ok (.iconst 1, 1) := by decide +kernel
theorem dX4_stuckIn_40 : decode cX4_stuckIn 40 = .ok (.invokevirtual 166, 3) := by decide +kernel
theorem dX4_stuckIn_43 : decode cX4_stuckIn 43 = .ok (.iinc 2 1, 3) := by decide +kernel
theorem dX4_stuckIn_46 : decode cX4_stuckIn 46 = .ok (.goto (-26), 3) := by decide +kernel
theorem dX4_stuckIn_49 : decode cX4_stuckIn 49 = .ok (.aload_n 0, 1) := by decide +kernel
theorem dX4_stuckIn_50 : decode cX4_stuckIn 50 = .ok (.getfield 16, 3) := by decide +kernel
theorem dX4_stuckIn_53 : decode cX4_stuckIn 53 = .ok (.invokevirtual 179, 3) := by decide +kernel
theorem dX4_stuckIn_56 : decode cX4_stuckIn 56 = .ok (.ifCond .le 7, 3) := by decide +kernel
theorem dX4_stuckIn_59 : decode cX4_stuckIn 59 = .ok (.iload_n 2, 1) := by decide +kernel
theorem dX4_stuckIn_60 : decode cX4_stuckIn 60 = .ok (.goto 4, 3) := by decide +kernel
theorem dX4_stuckIn_63 : decode cX4_stuckIn 63 = .ok (.iconst (-1), 1) := by decide +kernel
theorem dX4_stuckIn_64 : decode cX4_stuckIn 64 = .ok (.ireturn, 1) := by decide +kernel
theorem dX4_digest_0 : decode cX4_digest 0 = .ok (.ldc2_w 267, 3) := by decide +kernel
theorem dX4_digest_3 : decode cX4_digest 3 = .ok (.aload_n 0, 1) := by decide +kernel
theorem dX4_digest_4 : decode cX4_digest 4 = .ok (.invokevirtual 269, 3) := by decide +kernel
theorem dX4_digest_7 : decode cX4_digest 7 = .ok (.invokestatic 271, 3) := by decide +kernel
theorem dX4_digest_10 : decode cX4_digest 10 = .ok (.lstore_n 1, 1) := by decide +kernel
theorem dX4_digest_11 : decode cX4_digest 11 = .ok (.iconst 0, 1) := by decide +kernel
theorem dX4_digest_12 : decode cX4_digest 12 = .ok (.istore_n 3, 1) := by decide +kernel
theorem dX4_digest_13 : decode cX4_digest 13 = .ok (.iload_n 3, 1) := by decide +kernel
theorem dX4_digest_14 : decode cX4_digest 14 = .ok (.bipush 6, 2) := by decide +kernel
theorem dX4_digest_16 : decode cX4_digest 16 = .ok (.if_icmp .gt 19, 3) := by decide +kernel
theorem dX4_digest_19 : decode cX4_digest 19 = .ok (.lload_n 1, 1) := by decide +kernel
theorem dX4_digest_20 : decode cX4_digest 20 = .ok (.aload_n 0, 1) := by decide +kernel
theorem dX4_digest_21 : decode cX4_digest 21 = .ok (.iload_n 3, 1) := by decide +kernel
theorem dX4_digest_22 : decode cX4_digest 22 = .ok (.invokevirtual 275, 3) := by decide +kernel
theorem dX4_digest_25 : decode cX4_digest 25 = .ok (.invokestatic 271, 3) := by decide +kernel
theorem dX4_digest_28 : decode cX4_digest 28 = .ok (.lstore_n 1, 1) := by decide +kernel
theorem dX4_digest_29 : decode cX4_digest 29 = .ok (.iinc 3 1, 3) := by decide +kernel
theorem dX4_digest_32 : decode cX4_digest 32 = .ok (.goto (-19), 3) := by decide +kernel
theorem dX4_digest_35 : decode cX4_digest 35 = .ok (.iconst 0, 1) := by decide +kernel
theorem dX4_digest_36 : decode cX4_digest 36 = .ok (.istore_n 3, 1) := by decide +kernel
theorem dX4_digest_37 : decode cX4_digest 37 = .ok (.iload_n 3, 1) := by decide +kernel
theorem dX4_digest_38 : decode cX4_digest 38 = .ok (.bipush 6, 2) := by decide +kernel
theorem dX4_digest_40 : decode cX4_digest 40 = .ok (.if_icmp .ge 36, 3) := by decide +kernel
theorem dX4_digest_43 : decode cX4_digest 43 = .ok (.iconst 0, 1) := by decide +kernel
theorem dX4_digest_44 : decode cX4_digest 44 = .ok (.istore 4, 2) := by decide +kernel
theorem dX4_digest_46 : decode cX4_digest 46 = .ok (.iload 4, 2) := by decide +kernel
theorem dX4_digest_48 : decode cX4_digest 48 = .ok (.iconst 2, 1) := by decide +kernel
theorem dX4_digest_49 : decode cX4_digest 49 = .ok (.if_icmp .gt 21, 3) := by decide +kernel
theorem dX4_digest_52 : decode cX4_digest 52 = .ok (.lload_n 1, 1) := by decide +kernel
theorem dX4_digest_53 : decode cX4_digest 53 = .ok (.aload_n 0, 1) := by decide +kernel
theorem dX4_digest_54 : decode cX4_digest 54 = .ok (.iload_n 3, 1) := by decide +kernel
theorem dX4_digest_55 : decode cX4_digest 55 = .ok (.iload 4, 2) := by decide +kernel
theorem dX4_digest_57 : decode cX4_digest 57 = .ok (.invokevirtual 278, 3) := by decide +kernel
theorem dX4_digest_60 : decode cX4_digest 60 = .ok (.invokestatic 271, 3) := by decide +kernel
theorem dX4_digest_63 : decode cX4_digest 63 = .ok (.lstore_n 1, 1) := by decide +kernel
theorem dX4_digest_64 : decode cX4_digest 64 = .ok (.iinc 4 1, 3) := by decide +kernel
theorem dX4_digest_67 : decode cX4_digest 67 = .ok (.goto (-21), 3) := by decide +kernel
theorem dX4_digest_70 : decode cX4_digest 70 = .ok (.iinc 3 1, 3) := by decide +kernel
theorem dX4_digest_73 : decode cX4_digest 73 = .ok (.goto (-36), 3) := by decide +kernel
theorem dX4_digest_76 : decode cX4_digest 76 = .ok (.iconst 0, 1) := by decide +kernel
theorem dX4_digest_77 : decode cX4_digest 77 = .ok (.istore_n 3, 1) := by decide +kernel
theorem dX4_digest_78 : decode cX4_digest 78 = .ok (.iload_n 3, 1) := by decide +kernel
theorem dX4_digest_79 : decode cX4_digest 79 = .ok (.aload_n 0, 1) := by decide +kernel
theorem dX4_digest_80 : decode cX4_digest 80 = .ok (.getfield 10, 3) := by decide +kernel
theorem dX4_digest_83 : decode cX4_digest 83 = .ok (.getfield 31, 3) := by decide +kernel
theorem dX4_digest_86 : decode cX4_digest 86 = .ok (.if_icmp .ge 36, 3) := by decide +kernel
theorem dX4_digest_89 : decode cX4_digest 89 = .ok (.iconst 0, 1) := by decide +kernel
theorem dX4_digest_90 : decode cX4_digest 90 = .ok (.istore 4, 2) := by decide +kernel
theorem dX4_digest_92 : decode cX4_digest 92 = .ok (.iload 4, 2) := by decide +kernel
theorem dX4_digest_94 : decode cX4_digest 94 = .ok (.iconst 3, 1) := by decide +kernel
theorem dX4_digest_95 : decode cX4_digest 95 = .ok (.if_icmp .gt 21, 3) := by decide +kernel
theorem dX4_digest_98 : decode cX4_digest 98 = .ok (.lload_n 1, 1) := by decide +kernel
theorem dX4_digest_99 : decode cX4_digest 99 = .ok (.aload_n 0, 1) := by decide +kernel
theorem dX4_digest_100 : decode cX4_digest 100 = .ok (.iload_n 3, 1) := by decide +kernel
theorem dX4_digest_101 : decode cX4_digest 101 = .ok (.iload 4, 2) := by decide +kernel
theorem dX4_digest_103 : decode cX4_digest 103 = .ok (.invokevirtual 281, 3) := by decide +kernel
theorem dX4_digest_106 : decode cX4_digest 106 = .ok (.invokestatic 271, 3) := by decide +kernel
theorem dX4_digest_109 : decode cX4_digest 109 = .ok (.lstore_n 1, 1) := by decide +kernel
theorem dX4_digest_110 : decode cX4_digest 110 = .ok (.iinc 4 1, 3) := by decide +kernel
theorem dX4_digest_113 : decode cX4_digest 113 = .ok (.goto (-21), 3) := by decide +kernel
theorem dX4_digest_116 : decode cX4_digest 116 = .ok (.iinc 3 1, 3) := by decide +kernel
theorem dX4_digest_119 : decode cX4_digest 119 = .ok (.goto (-41), 3) := by decide +kernel
theorem dX4_digest_122 : decode cX4_digest 122 = .ok (.iconst 0, 1) := by decide +kernel
theorem dX4_digest_123 : decode cX4_digest 123 = .ok (.istore_n 3, 1) := by decide +kernel
theorem dX4_digest_124 : decode cX4_digest 124 = .ok (.iload_n 3, 1) := by decide +kernel
theorem dX4_digest_125 : decode cX4_digest 125 = .ok (.aload_n 0, 1) := by decide +kernel
theorem dX4_digest_126 : decode cX4_digest 126 = .ok (.getfield 10, 3) := by decide +kernel
theorem dX4_digest_129 : decode cX4_digest 129 = .ok (.getfield 111, 3) := by decide +kernel
theorem dX4_digest_132 : decode cX4_digest 132 = .ok (.if_icmp .ge 16, 3) := by decide +kernel
theorem dX4_digest_135 : decode cX4_digest 135 = .ok (.aload_n 0, 1) := by decide +kernel
theorem dX4_digest_136 : decode cX4_digest 136 = .ok (.lload_n 1, 1) := by decide +kernel
theorem dX4_digest_137 : decode cX4_digest 137 = .ok (.iload_n 3, 1) := by decide +kernel
theorem dX4_digest_138 : decode cX4_digest 138 = .ok (.invokevirtual 284, 3) := by decide +kernel
theorem dX4_digest_141 : decode cX4_digest 141 = .ok (.lstore_n 1, 1) := by decide +kernel
theorem dX4_digest_142 : decode cX4_digest 142 = .ok (.iinc 3 1, 3) := by decide +kernel
theorem dX4_digest_145 : decode cX4_digest 145 = .ok (.goto (-21), 3) := by decide +kernel
theorem dX4_digest_148 : decode cX4_digest 148 = .ok (.lload_n 1, 1) := by decide +kernel
theorem dX4_digest_149 : decode cX4_digest 149 = .ok (.lreturn, 1) := by decide +kernel
theorem dX4_mixedWithTrain_0 : decode cX4_mixedWithTrain 0 = .ok (.lload_n 1, 1) := by decide +kernel
theorem dX4_mixedWithTrain_1 : decode cX4_mixedWithTrain 1 = .ok (.lstore 4, 2) := by decide +kernel
theorem dX4_mixedWithTrain_3 : decode cX4_mixedWithTrain 3 = .ok (.iconst 0, 1) := by decide +kernel
theorem dX4_mixedWithTrain_4 : decode cX4_mixedWithTrain 4 = .ok (.istore 6, 2) := by decide +kernel
theorem dX4_mixedWithTrain_6 : decode cX4_mixedWithTrain 6 = .ok (.iload 6, 2) := by decide +kernel
theorem dX4_mixedWithTrain_8 : decode cX4_mixedWithTrain 8 = .ok (.bipush 12, 2) := by decide +kernel
theorem dX4_mixedWithTrain_10 : decode cX4_mixedWithTrain 10 = .ok (.if_icmp .gt 23, 3) := by decide +kernel
theorem dX4_mixedWithTrain_13 : decode cX4_mixedWithTrain 13 = .ok (.lload 4, 2) := by decide +kernel
theorem dX4_mixedWithTrain_15 : decode cX4_mixedWithTrain 15 = .ok (.aload_n 0, 1) := by decide +kernel
theorem dX4_mixedWithTrain_16 : decode cX4_mixedWithTrain 16 = .ok (.iload_n 3, 1) := by decide +kernel
theorem dX4_mixedWithTrain_17 : decode cX4_mixedWithTrain 17 = .ok (.iload 6, 2) := by decide +kernel
theorem dX4_mixedWithTrain_19 : decode cX4_mixedWithTrain 19 = .ok (.invokevirtual 287, 3) := by decide +kernel
theorem dX4_mixedWithTrain_22 : decode cX4_mixedWithTrain 22 = .ok (.invokestatic 271, 3) := by decide +kernel
theorem dX4_mixedWithTrain_25 : decode cX4_mixedWithTrain 25 = .ok (.lstore 4, 2) := by decide +kernel
theorem dX4_mixedWithTrain_27 : decode cX4_mixedWithTrain 27 = .ok (.iinc 6 1, 3) := by decide +kernel
theorem dX4_mixedWithTrain_30 : decode cX4_mixedWithTrain 30 = .ok (.goto (-24), 3) := by decide +kernel
theorem dX4_mixedWithTrain_33 : decode cX4_mixedWithTrain 33 = .ok (.lload 4, 2) := by decide +kernel
theorem dX4_mixedWithTrain_35 : decode cX4_mixedWithTrain 35 = .ok (.aload_n 0, 1) := by decide +kernel
theorem dX4_mixedWithTrain_36 : decode cX4_mixedWithTrain 36 = .ok (.iload_n 3, 1) := by decide +kernel
theorem dX4_mixedWithTrain_37 : decode cX4_mixedWithTrain 37 = .ok (.invokevirtual 290, 3) := by decide +kernel
theorem dX4_mixedWithTrain_40 : decode cX4_mixedWithTrain 40 = .ok (.invokestatic 271, 3) := by decide +kernel
theorem dX4_mixedWithTrain_43 : decode cX4_mixedWithTrain 43 = .ok (.lstore 4, 2) := by decide +kernel
theorem dX4_mixedWithTrain_45 : decode cX4_mixedWithTrain 45 = .ok (.lload 4, 2) := by decide +kernel
theorem dX4_mixedWithTrain_47 : decode cX4_mixedWithTrain 47 = .ok (.aload_n 0, 1) := by decide +kernel
theorem dX4_mixedWithTrain_48 : decode cX4_mixedWithTrain 48 = .ok (.iload_n 3, 1) := by decide +kernel
theorem dX4_mixedWithTrain_49 : decode cX4_mixedWithTrain 49 = .ok (.invokevirtual 292, 3) := by decide +kernel
theorem dX4_mixedWithTrain_52 : decode cX4_mixedWithTrain 52 = .ok (.invokestatic 210, 3) := by decide +kernel
theorem dX4_mixedWithTrain_55 : decode cX4_mixedWithTrain 55 = .ok (.invokestatic 271, 3) := by decide +kernel
theorem dX4_mixedWithTrain_58 : decode cX4_mixedWithTrain 58 = .ok (.lstore 4, 2) := by decide +kernel
theorem dX4_mixedWithTrain_60 : decode cX4_mixedWithTrain 60 = .ok (.iconst 0, 1) := by decide +kernel
theorem dX4_mixedWithTrain_61 : decode cX4_mixedWithTrain 61 = .ok (.istore 6, 2) := by decide +kernel
theorem dX4_mixedWithTrain_63 : decode cX4_mixedWithTrain 63 = .ok (.iload 6, 2) := by decide +kernel
theorem dX4_mixedWithTrain_65 : decode cX4_mixedWithTrain 65 = .ok (.aload_n 0, 1) := by decide +kernel
theorem dX4_mixedWithTrain_66 : decode cX4_mixedWithTrain 66 = .ok (.getfield 10, 3) := by decide +kernel
theorem dX4_mixedWithTrain_69 : decode cX4_mixedWithTrain 69 = .ok (.getfield 111, 3) := by decide +kernel
theorem dX4_mixedWithTrain_72 : decode cX4_mixedWithTrain 72 = .ok (.if_icmp .ge 23, 3) := by decide +kernel
theorem dX4_mixedWithTrain_75 : decode cX4_mixedWithTrain 75 = .ok (.lload 4, 2) := by decide +kernel
theorem dX4_mixedWithTrain_77 : decode cX4_mixedWithTrain 77 = .ok (.aload_n 0, 1) := by decide +kernel
theorem dX4_mixedWithTrain_78 : decode cX4_mixedWithTrain 78 = .ok (.iload_n 3, 1) := by decide +kernel
theorem dX4_mixedWithTrain_79 : decode cX4_mixedWithTrain 79 = .ok (.iload 6, 2) := by decide +kernel
theorem dX4_mixedWithTrain_81 : decode cX4_mixedWithTrain 81 = .ok (.invokevirtual 295, 3) := by decide +kernel
theorem dX4_mixedWithTrain_84 : decode cX4_mixedWithTrain 84 = .ok (.invokestatic 271, 3) := by decide +kernel
theorem dX4_mixedWithTrain_87 : decode cX4_mixedWithTrain 87 = .ok (.lstore 4, 2) := by decide +kernel
theorem dX4_mixedWithTrain_89 : decode cX4_mixedWithTrain 89 = .ok (.iinc 6 1, 3) := by decide +kernel
theorem dX4_mixedWithTrain_92 : decode cX4_mixedWithTrain 92 = .ok (.goto (-29), 3) := by decide +kernel
theorem dX4_mixedWithTrain_95 : decode cX4_mixedWithTrain 95 = .ok (.lload 4, 2) := by decide +kernel
theorem dX4_mixedWithTrain_97 : decode cX4_mixedWithTrain 97 = .ok (.lreturn, 1) := by decide +kernel
theorem dX4_mixed_0 : decode cX4_mixed 0 = .ok (.lload_n 0, 1) := by decide +kernel
theorem dX4_mixed_1 : decode cX4_mixed 1 = .ok (.ldc2_w 297, 3) := by decide +kernel
theorem dX4_mixed_4 : decode cX4_mixed 4 = .ok (.lmul, 1) := by decide +kernel
theorem dX4_mixed_5 : decode cX4_mixed 5 = .ok (.iload_n 2, 1) := by decide +kernel
theorem dX4_mixed_6 : decode cX4_mixed 6 = .ok (.i2l, 1) := by decide +kernel
theorem dX4_mixed_7 : decode cX4_mixed 7 = .ok (.ladd, 1) := by decide +kernel
theorem dX4_mixed_8 : decode cX4_mixed 8 = .ok (.lreturn, 1) := by decide +kernel
theorem dX4_oneIf_0 : decode cX4_oneIf 0 = .ok (.iload_n 0, 1) := by decide +kernel
theorem dX4_oneIf_1 : decode cX4_oneIf 1 = .ok (.ifCond .eq 7, 3) := by decide +kernel
theorem dX4_oneIf_4 : decode cX4_oneIf 4 = .ok (.iconst 1, 1) := by decide +kernel
theorem dX4_oneIf_5 : decode cX4_oneIf 5 = .ok (.goto 4, 3) := by decide +kernel
theorem dX4_oneIf_8 : decode cX4_oneIf 8 = .ok (.iconst 0, 1) := by decide +kernel
theorem dX4_oneIf_9 : decode cX4_oneIf 9 = .ok (.ireturn, 1) := by decide +kernel
theorem dX4_needStation_0 : decode cX4_needStation 0 = .ok (.iload_n 0, 1) := by decide +kernel
theorem dX4_needStation_1 : decode cX4_needStation 1 = .ok (.bipush 6, 2) := by decide +kernel
theorem dX4_needStation_3 : decode cX4_needStation 3 = .ok (.invokestatic 194, 3) := by decide +kernel
theorem dX4_needStation_6 : decode cX4_needStation 6 = .ok (.return_, 1) := by decide +kernel
theorem dX4_needBlock_0 : decode cX4_needBlock 0 = .ok (.iload_n 1, 1) := by decide +kernel
theorem dX4_needBlock_1 : decode cX4_needBlock 1 = .ok (.aload_n 0, 1) := by decide +kernel
theorem dX4_needBlock_2 : decode cX4_needBlock 2 = .ok (.getfield 10, 3) := by decide +kernel
theorem dX4_needBlock_5 : decode cX4_needBlock 5 = .ok (.getfield 31, 3) := by decide +kernel
theorem dX4_needBlock_8 : decode cX4_needBlock 8 = .ok (.invokestatic 194, 3) := by decide +kernel
theorem dX4_needBlock_11 : decode cX4_needBlock 11 = .ok (.return_, 1) := by decide +kernel
theorem dX4_needRoute_0 : decode cX4_needRoute 0 = .ok (.iload_n 1, 1) := by decide +kernel
theorem dX4_needRoute_1 : decode cX4_needRoute 1 = .ok (.aload_n 0, 1) := by decide +kernel
theorem dX4_needRoute_2 : decode cX4_needRoute 2 = .ok (.getfield 10, 3) := by decide +kernel
theorem dX4_needRoute_5 : decode cX4_needRoute 5 = .ok (.getfield 59, 3) := by decide +kernel
theorem dX4_needRoute_8 : decode cX4_needRoute 8 = .ok (.invokestatic 194, 3) := by decide +kernel
theorem dX4_needRoute_11 : decode cX4_needRoute 11 = .ok (.return_, 1) := by decide +kernel
theorem dX4_needTrain_0 : decode cX4_needTrain 0 = .ok (.iload_n 1, 1) := by decide +kernel
theorem dX4_needTrain_1 : decode cX4_needTrain 1 = .ok (.aload_n 0, 1) := by decide +kernel
theorem dX4_needTrain_2 : decode cX4_needTrain 2 = .ok (.getfield 10, 3) := by decide +kernel
theorem dX4_needTrain_5 : decode cX4_needTrain 5 = .ok (.getfield 111, 3) := by decide +kernel
theorem dX4_needTrain_8 : decode cX4_needTrain 8 = .ok (.invokestatic 194, 3) := by decide +kernel
theorem dX4_needTrain_11 : decode cX4_needTrain 11 = .ok (.return_, 1) := by decide +kernel
theorem dX4_needNumber_0 : decode cX4_needNumber 0 = .ok (.iload_n 0, 1) := by decide +kernel
theorem dX4_needNumber_1 : decode cX4_needNumber 1 = .ok (.ifCond .lt 8, 3) := by decide +kernel
theorem dX4_needNumber_4 : decode cX4_needNumber 4 = .ok (.iload_n 0, 1) := by decide +kernel
theorem dX4_needNumber_5 : decode cX4_needNumber 5 = .ok (.iload_n 1, 1) := by decide +kernel
theorem dX4_needNumber_6 : decode cX4_needNumber 6 = .ok (.if_icmp .lt 14, 3) := by decide +kernel
theorem dX4_needNumber_9 : decode cX4_needNumber 9 = .ok (.new 299, 3) := by decide +kernel
theorem dX4_needNumber_12 : decode cX4_needNumber 12 = .ok (.dup, 1) := by decide +kernel
theorem dX4_needNumber_13 : decode cX4_needNumber 13 = .ok (.ldc_w 301, 3) := by decide +kernel
theorem dX4_needNumber_16 : decode cX4_needNumber 16 = .ok (.invokespecial 303, 3) := by decide +kernel
theorem dX4_needNumber_19 : decode cX4_needNumber 19 = .ok (.athrow, 1) := by decide +kernel
theorem dX4_needNumber_20 : decode cX4_needNumber 20 = .ok (.return_, 1) := by decide +kernel
theorem dX4_needWithin_0 : decode cX4_needWithin 0 = .ok (.iload_n 0, 1) := by decide +kernel
theorem dX4_needWithin_1 : decode cX4_needWithin 1 = .ok (.iload_n 1, 1) := by decide +kernel
theorem dX4_needWithin_2 : decode cX4_needWithin 2 = .ok (.if_icmp .lt 8, 3) := by decide +kernel
theorem dX4_needWithin_5 : decode cX4_needWithin 5 = .ok (.iload_n 0, 1) := by decide +kernel
theorem dX4_needWithin_6 : decode cX4_needWithin 6 = .ok (.iload_n 2, 1) := by decide +kernel
theorem dX4_needWithin_7 : decode cX4_needWithin 7 = .ok (.if_icmp .le 14, 3) := by decide +kernel
theorem dX4_needWithin_10 : decode cX4_needWithin 10 = .ok (.new 54, 3) := by decide +kernel
theorem dX4_needWithin_13 : decode cX4_needWithin 13 = .ok (.dup, 1) := by decide +kernel
theorem dX4_needWithin_14 : decode cX4_needWithin 14 = .ok (.ldc_w 304, 3) := by decide +kernel
theorem dX4_needWithin_17 : decode cX4_needWithin 17 = .ok (.invokespecial 58, 3) := by decide +kernel
theorem dX4_needWithin_20 : decode cX4_needWithin 20 = .ok (.athrow, 1) := by decide +kernel
theorem dX4_needWithin_21 : decode cX4_needWithin 21 = .ok (.return_, 1) := by decide +kernel
theorem dJ9_max_7cf53_0 : decode cJ9_max_7cf53 0 = .ok (.iload_n 0, 1) := by decide +kernel
theorem dJ9_max_7cf53_1 : decode cJ9_max_7cf53 1 = .ok (.iload_n 1, 1) := by decide +kernel
theorem dJ9_max_7cf53_2 : decode cJ9_max_7cf53 2 = .ok (.if_icmp .lt 7, 3) := by decide +kernel
theorem dJ9_max_7cf53_5 : decode cJ9_max_7cf53 5 = .ok (.iload_n 0, 1) := by decide +kernel
theorem dJ9_max_7cf53_6 : decode cJ9_max_7cf53 6 = .ok (.goto 4, 3) := by decide +kernel
theorem dJ9_max_7cf53_9 : decode cJ9_max_7cf53 9 = .ok (.iload_n 1, 1) := by decide +kernel
theorem dJ9_max_7cf53_10 : decode cJ9_max_7cf53 10 = .ok (.ireturn, 1) := by decide +kernel
theorem dL_below_0 : decode cL_below 0 = .ok (.iload_n 0, 1) := by decide +kernel
theorem dL_below_1 : decode cL_below 1 = .ok (.ldc 7, 2) := by decide +kernel
theorem dL_below_3 : decode cL_below 3 = .ok (.iand, 1) := by decide +kernel
theorem dL_below_4 : decode cL_below 4 = .ok (.iload_n 1, 1) := by decide +kernel
theorem dL_below_5 : decode cL_below 5 = .ok (.irem, 1) := by decide +kernel
theorem dL_below_6 : decode cL_below 6 = .ok (.ireturn, 1) := by decide +kernel
theorem dL_cell_0 : decode cL_cell 0 = .ok (.iload_n 1, 1) := by decide +kernel
theorem dL_cell_1 : decode cL_cell 1 = .ok (.aload_n 0, 1) := by decide +kernel
theorem dL_cell_2 : decode cL_cell 2 = .ok (.arraylength, 1) := by decide +kernel
theorem dL_cell_3 : decode cL_cell 3 = .ok (.if_icmp .ge 9, 3) := by decide +kernel
theorem dL_cell_6 : decode cL_cell 6 = .ok (.aload_n 0, 1) := by decide +kernel
theorem dL_cell_7 : decode cL_cell 7 = .ok (.iload_n 1, 1) := by decide +kernel
theorem dL_cell_8 : decode cL_cell 8 = .ok (.iaload, 1) := by decide +kernel
theorem dL_cell_9 : decode cL_cell 9 = .ok (.goto 9, 3) := by decide +kernel
theorem dL_cell_12 : decode cL_cell 12 = .ok (.ldc 8, 2) := by decide +kernel
theorem dL_cell_14 : decode cL_cell 14 = .ok (.iload_n 1, 1) := by decide +kernel
theorem dL_cell_15 : decode cL_cell 15 = .ok (.iconst 3, 1) := by decide +kernel
theorem dL_cell_16 : decode cL_cell 16 = .ok (.iadd, 1) := by decide +kernel
theorem dL_cell_17 : decode cL_cell 17 = .ok (.imul, 1) := by decide +kernel
theorem dL_cell_18 : decode cL_cell 18 = .ok (.ireturn, 1) := by decide +kernel
theorem dL_law_0 : decode cL_law 0 = .ok (.new 9, 3) := by decide +kernel
theorem dL_law_3 : decode cL_law 3 = .ok (.dup, 1) := by decide +kernel
theorem dL_law_4 : decode cL_law 4 = .ok (.invokespecial 11, 3) := by decide +kernel
theorem dL_law_7 : decode cL_law 7 = .ok (.astore_n 1, 1) := by decide +kernel
theorem dL_law_8 : decode cL_law 8 = .ok (.iconst 3, 1) := by decide +kernel
theorem dL_law_9 : decode cL_law 9 = .ok (.aload_n 0, 1) := by decide +kernel
theorem dL_law_10 : decode cL_law 10 = .ok (.iconst 0, 1) := by decide +kernel
theorem dL_law_11 : decode cL_law 11 = .ok (.invokestatic 12, 3) := by decide +kernel
theorem dL_law_14 : decode cL_law 14 = .ok (.iconst 5, 1) := by decide +kernel
theorem dL_law_15 : decode cL_law 15 = .ok (.invokestatic 18, 3) := by decide +kernel
theorem dL_law_18 : decode cL_law 18 = .ok (.iadd, 1) := by decide +kernel
theorem dL_law_19 : decode cL_law 19 = .ok (.istore_n 2, 1) := by decide +kernel
theorem dL_law_20 : decode cL_law 20 = .ok (.iconst 0, 1) := by decide +kernel
theorem dL_law_21 : decode cL_law 21 = .ok (.istore_n 3, 1) := by decide +kernel
theorem dL_law_22 : decode cL_law 22 = .ok (.iload_n 3, 1) := by decide +kernel
theorem dL_law_23 : decode cL_law 23 = .ok (.iload_n 2, 1) := by decide +kernel
theorem dL_law_24 : decode cL_law 24 = .ok (.if_icmp .ge 25, 3) := by decide +kernel
theorem dL_law_27 : decode cL_law 27 = .ok (.aload_n 1, 1) := by decide +kernel
theorem dL_law_28 : decode cL_law 28 = .ok (.iconst 1, 1) := by decide +kernel
theorem dL_law_29 : decode cL_law 29 = .ok (.aload_n 0, 1) := by decide +kernel
theorem dL_law_30 : decode cL_law 30 = .ok (.iload_n 3, 1) := by decide +kernel
theorem dL_law_31 : decode cL_law 31 = .ok (.invokestatic 12, 3) := by decide +kernel
theorem dL_law_34 : decode cL_law 34 = .ok (.iconst 3, 1) := by decide +kernel
theorem dL_law_35 : decode cL_law 35 = .ok (.invokestatic 18, 3) := by decide +kernel
theorem dL_law_38 : decode cL_law 38 = .ok (.iadd, 1) := by decide +kernel
theorem dL_law_39 : decode cL_law 39 = .ok (.invokevirtual 22, 3) := by decide +kernel
theorem dL_law_42 : decode cL_law 42 = .ok (.pop, 1) := by decide +kernel
theorem dL_law_43 : decode cL_law 43 = .ok (.iinc 3 1, 3) := by decide +kernel
theorem dL_law_46 : decode cL_law 46 = .ok (.goto (-24), 3) := by decide +kernel
theorem dL_law_49 : decode cL_law 49 = .ok (.iconst 0, 1) := by decide +kernel
theorem dL_law_50 : decode cL_law 50 = .ok (.istore_n 3, 1) := by decide +kernel
theorem dL_law_51 : decode cL_law 51 = .ok (.iload_n 3, 1) := by decide +kernel
theorem dL_law_52 : decode cL_law 52 = .ok (.bipush 8, 2) := by decide +kernel
theorem dL_law_54 : decode cL_law 54 = .ok (.if_icmp .ge 157, 3) := by decide +kernel
theorem dL_law_57 : decode cL_law 57 = .ok (.aload_n 0, 1) := by decide +kernel
theorem dL_law_58 : decode cL_law 58 = .ok (.iload_n 3, 1) := by decide +kernel
theorem dL_law_59 : decode cL_law 59 = .ok (.iconst 2, 1) := by decide +kernel
theorem dL_law_60 : decode cL_law 60 = .ok (.iadd, 1) := by decide +kernel
theorem dL_law_61 : decode cL_law 61 = .ok (.invokestatic 12, 3) := by decide +kernel
theorem dL_law_64 : decode cL_law 64 = .ok (.istore 4, 2) := by decide +kernel
theorem dL_law_66 : decode cL_law 66 = .ok (.iload_n 3, 1) := by decide +kernel
theorem dL_law_67 : decode cL_law 67 = .ok (.iconst 3, 1) := by decide +kernel
theorem dL_law_68 : decode cL_law 68 = .ok (.irem, 1) := by decide +kernel
theorem dL_law_69 : decode cL_law 69 = .ok (.istore 5, 2) := by decide +kernel
theorem dL_law_71 : decode cL_law 71 = .ok (.aload_n 1, 1) := by decide +kernel
theorem dL_law_72 : decode cL_law 72 = .ok (.iload 5, 2) := by decide +kernel
theorem dL_law_74 : decode cL_law 74 = .ok (.iload 5, 2) := by decide +kernel
theorem dL_law_76 : decode cL_law 76 = .ok (.iconst 1, 1) := by decide +kernel
theorem dL_law_77 : decode cL_law 77 = .ok (.iadd, 1) := by decide +kernel
theorem dL_law_78 : decode cL_law 78 = .ok (.iload_n 3, 1) := by decide +kernel
theorem dL_law_79 : decode cL_law 79 = .ok (.iconst 3, 1) := by decide +kernel
theorem dL_law_80 : decode cL_law 80 = .ok (.idiv, 1) := by decide +kernel
theorem dL_law_81 : decode cL_law 81 = .ok (.iconst 2, 1) := by decide +kernel
theorem dL_law_82 : decode cL_law 82 = .ok (.irem, 1) := by decide +kernel
theorem dL_law_83 : decode cL_law 83 = .ok (.iadd, 1) := by decide +kernel
theorem dL_law_84 : decode cL_law 84 = .ok (.iconst 3, 1) := by decide +kernel
theorem dL_law_85 : decode cL_law 85 = .ok (.irem, 1) := by decide +kernel
theorem dL_law_86 : decode cL_law 86 = .ok (.iload 4, 2) := by decide +kernel
theorem dL_law_88 : decode cL_law 88 = .ok (.iload_n 2, 1) := by decide +kernel
theorem dL_law_89 : decode cL_law 89 = .ok (.invokestatic 18, 3) := by decide +kernel
theorem dL_law_92 : decode cL_law 92 = .ok (.iload 4, 2) := by decide +kernel
theorem dL_law_94 : decode cL_law 94 = .ok (.iconst 2, 1) := by decide +kernel
theorem dL_law_95 : decode cL_law 95 = .ok (.ishr, 1) := by decide +kernel
theorem dL_law_96 : decode cL_law 96 = .ok (.iconst 2, 1) := by decide +kernel
theorem dL_law_97 : decode cL_law 97 = .ok (.invokestatic 18, 3) := by decide +kernel
theorem dL_law_100 : decode cL_law 100 = .ok (.ifCond .ne 7, 3) := by decide +kernel
theorem dL_law_103 : decode cL_law 103 = .ok (.iconst 1, 1) := by decide +kernel
theorem dL_law_104 : decode cL_law 104 = .ok (.goto 4, 3) := by decide +kernel
theorem dL_law_107 : decode cL_law 107 = .ok (.iconst 0, 1) := by decide +kernel
theorem dL_law_108 : decode cL_law 108 = .ok (.invokevirtual 26, 3) := by decide +kernel
theorem dL_law_111 : decode cL_law 111 = .ok (.pop, 1) := by decide +kernel
theorem dL_law_112 : decode cL_law 112 = .ok (.iconst 0, 1) := by decide +kernel
theorem dL_law_113 : decode cL_law 113 = .ok (.istore 6, 2) := by decide +kernel
theorem dL_law_115 : decode cL_law 115 = .ok (.iload 6, 2) := by decide +kernel
theorem dL_law_117 : decode cL_law 117 = .ok (.iload 4, 2) := by decide +kernel
theorem dL_law_119 : decode cL_law 119 = .ok (.iconst 3, 1) := by decide +kernel
theorem dL_law_120 : decode cL_law 120 = .ok (.ishr, 1) := by decide +kernel
theorem dL_law_121 : decode cL_law 121 = .ok (.iconst 3, 1) := by decide +kernel
theorem dL_law_122 : decode cL_law 122 = .ok (.invokestatic 18, 3) := by decide +kernel
theorem dL_law_125 : decode cL_law 125 = .ok (.if_icmp .ge 80, 3) := by decide +kernel
theorem dL_law_128 : decode cL_law 128 = .ok (.iload 4, 2) := by decide +kernel
theorem dL_law_130 : decode cL_law 130 = .ok (.iconst 5, 1) := by decide +kernel
theorem dL_law_131 : decode cL_law 131 = .ok (.iload 6, 2) := by decide +kernel
theorem dL_law_133 : decode cL_law 133 = .ok (.iadd, 1) := by decide +kernel
theorem dL_law_134 : decode cL_law 134 = .ok (.ishr, 1) := by decide +kernel
theorem dL_law_135 : decode cL_law 135 = .ok (.iload_n 2, 1) := by decide +kernel
theorem dL_law_136 : decode cL_law 136 = .ok (.invokestatic 18, 3) := by decide +kernel
theorem dL_law_139 : decode cL_law 139 = .ok (.istore 7, 2) := by decide +kernel
theorem dL_law_141 : decode cL_law 141 = .ok (.iconst 0, 1) := by decide +kernel
theorem dL_law_142 : decode cL_law 142 = .ok (.istore 8, 2) := by decide +kernel
theorem dL_law_144 : decode cL_law 144 = .ok (.iconst 0, 1) := by decide +kernel
theorem dL_law_145 : decode cL_law 145 = .ok (.istore 9, 2) := by decide +kernel
theorem dL_law_147 : decode cL_law 147 = .ok (.iload 9, 2) := by decide +kernel
theorem dL_law_149 : decode cL_law 149 = .ok (.aload_n 1, 1) := by decide +kernel
theorem dL_law_150 : decode cL_law 150 = .ok (.iload_n 3, 1) := by decide +kernel
theorem dL_law_151 : decode cL_law 151 = .ok (.iconst 2, 1) := by decide +kernel
theorem dL_law_152 : decode cL_law 152 = .ok (.invokevirtual 30, 3) := by decide +kernel
theorem dL_law_155 : decode cL_law 155 = .ok (.if_icmp .ge 31, 3) := by decide +kernel
theorem dL_law_158 : decode cL_law 158 = .ok (.iload 8, 2) := by decide +kernel
theorem dL_law_160 : decode cL_law 160 = .ok (.aload_n 1, 1) := by decide +kernel
theorem dL_law_161 : decode cL_law 161 = .ok (.iload_n 3, 1) := by decide +kernel
theorem dL_law_162 : decode cL_law 162 = .ok (.iload 9, 2) := by decide +kernel
theorem dL_law_164 : decode cL_law 164 = .ok (.invokevirtual 33, 3) := by decide +kernel
theorem dL_law_167 : decode cL_law 167 = .ok (.iload 7, 2) := by decide +kernel
theorem dL_law_169 : decode cL_law 169 = .ok (.if_icmp .ne 7, 3) := by decide +kernel
theorem dL_law_172 : decode cL_law 172 = .ok (.iconst 1, 1) := by decide +kernel
theorem dL_law_173 : decode cL_law 173 = .ok (.goto 4, 3) := by decide +kernel
theorem dL_law_176 : decode cL_law 176 = .ok (.iconst 0, 1) := by decide +kernel
theorem dL_law_177 : decode cL_law 177 = .ok (.ior, 1) := by decide +kernel
theorem dL_law_178 : decode cL_law 178 = .ok (.istore 8, 2) := by decide +kernel
theorem dL_law_180 : decode cL_law 180 = .ok (.iinc 9 1, 3) := by decide +kernel
theorem dL_law_183 : decode cL_law 183 = .ok (.goto (-36), 3) := by decide +kernel
theorem dL_law_186 : decode cL_law 186 = .ok (.iload 8, 2) := by decide +kernel
theorem dL_law_188 : decode cL_law 188 = .ok (.ifCond .ne 11, 3) := by decide +kernel
theorem dL_law_191 : decode cL_law 191 = .ok (.aload_n 1, 1) := by decide +kernel
theorem dL_law_192 : decode cL_law 192 = .ok (.iload_n 3, 1) := by decide +kernel
theorem dL_law_193 : decode cL_law 193 = .ok (.iload 7, 2) := by decide +kernel
theorem dL_law_195 : decode cL_law 195 = .ok (.invokevirtual 36, 3) := by decide +kernel
theorem dL_law_198 : decode cL_law 198 = .ok (.pop, 1) := by decide +kernel
theorem dL_law_199 : decode cL_law 199 = .ok (.iinc 6 1, 3) := by decide +kernel
theorem dL_law_202 : decode cL_law 202 = .ok (.goto (-87), 3) := by decide +kernel
theorem dL_law_205 : decode cL_law 205 = .ok (.iinc 3 1, 3) := by decide +kernel
theorem dL_law_208 : decode cL_law 208 = .ok (.goto (-157), 3) := by decide +kernel
theorem dL_law_211 : decode cL_law 211 = .ok (.iconst 0, 1) := by decide +kernel
theorem dL_law_212 : decode cL_law 212 = .ok (.istore_n 3, 1) := by decide +kernel
theorem dL_law_213 : decode cL_law 213 = .ok (.iconst 0, 1) := by decide +kernel
theorem dL_law_214 : decode cL_law 214 = .ok (.istore 4, 2) := by decide +kernel
theorem dL_law_216 : decode cL_law 216 = .ok (.iload 4, 2) := by decide +kernel
theorem dL_law_218 : decode cL_law 218 = .ok (.iconst 5, 1) := by decide +kernel
theorem dL_law_219 : decode cL_law 219 = .ok (.if_icmp .ge 148, 3) := by decide +kernel
theorem dL_law_222 : decode cL_law 222 = .ok (.aload_n 0, 1) := by decide +kernel
theorem dL_law_223 : decode cL_law 223 = .ok (.bipush 8, 2) := by decide +kernel
theorem dL_law_225 : decode cL_law 225 = .ok (.iload 4, 2) := by decide +kernel
theorem dL_law_227 : decode cL_law 227 = .ok (.iadd, 1) := by decide +kernel
theorem dL_law_228 : decode cL_law 228 = .ok (.invokestatic 12, 3) := by decide +kernel
theorem dL_law_231 : decode cL_law 231 = .ok (.istore 5, 2) := by decide +kernel
theorem dL_law_233 : decode cL_law 233 = .ok (.iload 5, 2) := by decide +kernel
theorem dL_law_235 : decode cL_law 235 = .ok (.iconst 3, 1) := by decide +kernel
theorem dL_law_236 : decode cL_law 236 = .ok (.invokestatic 18, 3) := by decide +kernel
theorem dL_law_239 : decode cL_law 239 = .ok (.istore 6, 2) := by decide +kernel
theorem dL_law_241 : decode cL_law 241 = .ok (.aload_n 1, 1) := by decide +kernel
theorem dL_law_242 : decode cL_law 242 = .ok (.iload 6, 2) := by decide +kernel
theorem dL_law_244 : decode cL_law 244 = .ok (.iconst 1, 1) := by decide +kernel
theorem dL_law_245 : decode cL_law 245 = .ok (.invokevirtual 39, 3) := by decide +kernel
theorem dL_law_248 : decode cL_law 248 = .ok (.iconst 2, 1) := by decide +kernel
theorem dL_law_249 : decode cL_law 249 = .ok (.if_icmp .ne 6, 3) := by decide +kernel
theorem dL_law_252 : decode cL_law 252 = .ok (.goto 109, 3) := by decide +kernel
theorem dL_law_255 : decode cL_law 255 = .ok (.aload_n 1, 1) := by decide +kernel
theorem dL_law_256 : decode cL_law 256 = .ok (.iload 5, 2) := by decide +kernel
theorem dL_law_258 : decode cL_law 258 = .ok (.iconst 2, 1) := by decide +kernel
theorem dL_law_259 : decode cL_law 259 = .ok (.ishr, 1) := by decide +kernel
theorem dL_law_260 : decode cL_law 260 = .ok (.bipush 10, 2) := by decide +kernel
theorem dL_law_262 : decode cL_law 262 = .ok (.invokestatic 18, 3) := by decide +kernel
theorem dL_law_265 : decode cL_law 265 = .ok (.iconst 1, 1) := by decide +kernel
theorem dL_law_266 : decode cL_law 266 = .ok (.iload 5, 2) := by decide +kernel
theorem dL_law_268 : decode cL_law 268 = .ok (.iconst 3, 1) := by decide +kernel
theorem dL_law_269 : decode cL_law 269 = .ok (.ishr, 1) := by decide +kernel
theorem dL_law_270 : decode cL_law 270 = .ok (.iconst 3, 1) := by decide +kernel
theorem dL_law_271 : decode cL_law 271 = .ok (.invokestatic 18, 3) := by decide +kernel
theorem dL_law_274 : decode cL_law 274 = .ok (.iadd, 1) := by decide +kernel
theorem dL_law_275 : decode cL_law 275 = .ok (.iload 6, 2) := by decide +kernel
theorem dL_law_277 : decode cL_law 277 = .ok (.iload 5, 2) := by decide +kernel
theorem dL_law_279 : decode cL_law 279 = .ok (.iconst 4, 1) := by decide +kernel
theorem dL_law_280 : decode cL_law 280 = .ok (.ishr, 1) := by decide +kernel
theorem dL_law_281 : decode cL_law 281 = .ok (.iconst 4, 1) := by decide +kernel
theorem dL_law_282 : decode cL_law 282 = .ok (.invokestatic 18, 3) := by decide +kernel
theorem dL_law_285 : decode cL_law 285 = .ok (.invokevirtual 42, 3) := by decide +kernel
theorem dL_law_288 : decode cL_law 288 = .ok (.iload_n 3, 1) := by decide +kernel
theorem dL_law_289 : decode cL_law 289 = .ok (.if_icmp .eq 5, 3) := by decide +kernel
theorem dL_law_292 : decode cL_law 292 = .ok (.iconst 0, 1) := by decide +kernel
theorem dL_law_293 : decode cL_law 293 = .ok (.ireturn, 1) := by decide +kernel
theorem dL_law_294 : decode cL_law 294 = .ok (.iconst 0, 1) := by decide +kernel
theorem dL_law_295 : decode cL_law 295 = .ok (.istore 7, 2) := by decide +kernel
theorem dL_law_297 : decode cL_law 297 = .ok (.iload 7, 2) := by decide +kernel
theorem dL_law_299 : decode cL_law 299 = .ok (.iconst 1, 1) := by decide +kernel
theorem dL_law_300 : decode cL_law 300 = .ok (.iload 5, 2) := by decide +kernel
theorem dL_law_302 : decode cL_law 302 = .ok (.iconst 5, 1) := by decide +kernel
theorem dL_law_303 : decode cL_law 303 = .ok (.ishr, 1) := by decide +kernel
theorem dL_law_304 : decode cL_law 304 = .ok (.iconst 4, 1) := by decide +kernel
theorem dL_law_305 : decode cL_law 305 = .ok (.invokestatic 18, 3) := by decide +kernel
theorem dL_law_308 : decode cL_law 308 = .ok (.iadd, 1) := by decide +kernel
theorem dL_law_309 : decode cL_law 309 = .ok (.if_icmp .ge 49, 3) := by decide +kernel
theorem dL_law_312 : decode cL_law 312 = .ok (.aload_n 1, 1) := by decide +kernel
theorem dL_law_313 : decode cL_law 313 = .ok (.iload_n 3, 1) := by decide +kernel
theorem dL_law_314 : decode cL_law 314 = .ok (.aload_n 1, 1) := by decide +kernel
theorem dL_law_315 : decode cL_law 315 = .ok (.iload_n 3, 1) := by decide +kernel
theorem dL_law_316 : decode cL_law 316 = .ok (.iload 7, 2) := by decide +kernel
theorem dL_law_318 : decode cL_law 318 = .ok (.iconst 0, 1) := by decide +kernel
theorem dL_law_319 : decode cL_law 319 = .ok (.invokevirtual 46, 3) := by decide +kernel
theorem dL_law_322 : decode cL_law 322 = .ok (.iconst 1, 1) := by decide +kernel
theorem dL_law_323 : decode cL_law 323 = .ok (.iadd, 1) := by decide +kernel
theorem dL_law_324 : decode cL_law 324 = .ok (.iconst 3, 1) := by decide +kernel
theorem dL_law_325 : decode cL_law 325 = .ok (.irem, 1) := by decide +kernel
theorem dL_law_326 : decode cL_law 326 = .ok (.aload_n 1, 1) := by decide +kernel
theorem dL_law_327 : decode cL_law 327 = .ok (.iload_n 3, 1) := by decide +kernel
theorem dL_law_328 : decode cL_law 328 = .ok (.iload 7, 2) := by decide +kernel
theorem dL_law_330 : decode cL_law 330 = .ok (.iconst 1, 1) := by decide +kernel
theorem dL_law_331 : decode cL_law 331 = .ok (.invokevirtual 46, 3) := by decide +kernel
theorem dL_law_334 : decode cL_law 334 = .ok (.iload 5, 2) := by decide +kernel
theorem dL_law_336 : decode cL_law 336 = .ok (.bipush 6, 2) := by decide +kernel
theorem dL_law_338 : decode cL_law 338 = .ok (.iload 7, 2) := by decide +kernel
theorem dL_law_340 : decode cL_law 340 = .ok (.iadd, 1) := by decide +kernel
theorem dL_law_341 : decode cL_law 341 = .ok (.ishr, 1) := by decide +kernel
theorem dL_law_342 : decode cL_law 342 = .ok (.bipush 7, 2) := by decide +kernel
theorem dL_law_344 : decode cL_law 344 = .ok (.invokestatic 18, 3) := by decide +kernel
theorem dL_law_347 : decode cL_law 347 = .ok (.iadd, 1) := by decide +kernel
theorem dL_law_348 : decode cL_law 348 = .ok (.invokevirtual 50, 3) := by decide +kernel
theorem dL_law_351 : decode cL_law 351 = .ok (.pop, 1) := by decide +kernel
theorem dL_law_352 : decode cL_law 352 = .ok (.iinc 7 1, 3) := by decide +kernel
theorem dL_law_355 : decode cL_law 355 = .ok (.goto (-58), 3) := by decide +kernel
theorem dL_law_358 : decode cL_law 358 = .ok (.iinc 3 1, 3) := by decide +kernel
theorem dL_law_361 : decode cL_law 361 = .ok (.iinc 4 1, 3) := by decide +kernel
theorem dL_law_364 : decode cL_law 364 = .ok (.goto (-148), 3) := by decide +kernel
theorem dL_law_367 : decode cL_law 367 = .ok (.aload_n 1, 1) := by decide +kernel
theorem dL_law_368 : decode cL_law 368 = .ok (.aload_n 0, 1) := by decide +kernel
theorem dL_law_369 : decode cL_law 369 = .ok (.bipush 13, 2) := by decide +kernel
theorem dL_law_371 : decode cL_law 371 = .ok (.invokestatic 12, 3) := by decide +kernel
theorem dL_law_374 : decode cL_law 374 = .ok (.iconst 3, 1) := by decide +kernel
theorem dL_law_375 : decode cL_law 375 = .ok (.invokestatic 18, 3) := by decide +kernel
theorem dL_law_378 : decode cL_law 378 = .ok (.aload_n 0, 1) := by decide +kernel
theorem dL_law_379 : decode cL_law 379 = .ok (.bipush 14, 2) := by decide +kernel
theorem dL_law_381 : decode cL_law 381 = .ok (.invokestatic 12, 3) := by decide +kernel
theorem dL_law_384 : decode cL_law 384 = .ok (.iconst 4, 1) := by decide +kernel
theorem dL_law_385 : decode cL_law 385 = .ok (.invokestatic 18, 3) := by decide +kernel
theorem dL_law_388 : decode cL_law 388 = .ok (.invokevirtual 54, 3) := by decide +kernel
theorem dL_law_391 : decode cL_law 391 = .ok (.pop, 1) := by decide +kernel
theorem dL_law_392 : decode cL_law 392 = .ok (.iconst 5, 1) := by decide +kernel
theorem dL_law_393 : decode cL_law 393 = .ok (.newarray .int, 2) := by decide +kernel
theorem dL_law_395 : decode cL_law 395 = .ok (.astore 4, 2) := by decide +kernel
theorem dL_law_397 : decode cL_law 397 = .ok (.iconst 0, 1) := by decide +kernel
theorem dL_law_398 : decode cL_law 398 = .ok (.istore 5, 2) := by decide +kernel
theorem dL_law_400 : decode cL_law 400 = .ok (.iload 5, 2) := by decide +kernel
theorem dL_law_402 : decode cL_law 402 = .ok (.bipush 24, 2) := by decide +kernel
theorem dL_law_404 : decode cL_law 404 = .ok (.if_icmp .ge 791, 3) := by decide +kernel
theorem dL_law_407 : decode cL_law 407 = .ok (.aload_n 1, 1) := by decide +kernel
theorem dL_law_408 : decode cL_law 408 = .ok (.invokevirtual 57, 3) := by decide +kernel
theorem dL_law_411 : decode cL_law 411 = .ok (.lstore 6, 2) := by decide +kernel
theorem dL_law_413 : decode cL_law 413 = .ok (.aload_n 1, 1) := by decide +kernel
theorem dL_law_414 : decode cL_law 414 = .ok (.iconst 1, 1) := by decide +kernel
theorem dL_law_415 : decode cL_law 415 = .ok (.invokevirtual 61, 3) := by decide +kernel
theorem dL_law_418 : decode cL_law 418 = .ok (.istore 8, 2) := by decide +kernel
theorem dL_law_420 : decode cL_law 420 = .ok (.iconst 5, 1) := by decide +kernel
theorem dL_law_421 : decode cL_law 421 = .ok (.newarray .int, 2) := by decide +kernel
theorem dL_law_423 : decode cL_law 423 = .ok (.astore 9, 2) := by decide +kernel
theorem dL_law_425 : decode cL_law 425 = .ok (.iconst 0, 1) := by decide +kernel
theorem dL_law_426 : decode cL_law 426 = .ok (.istore 10, 2) := by decide +kernel
theorem dL_law_428 : decode cL_law 428 = .ok (.iload 10, 2) := by decide +kernel
theorem dL_law_430 : decode cL_law 430 = .ok (.iload_n 3, 1) := by decide +kernel
theorem dL_law_431 : decode cL_law 431 = .ok (.if_icmp .ge 21, 3) := by decide +kernel
theorem dL_law_434 : decode cL_law 434 = .ok (.aload 9, 2) := by decide +kernel
theorem dL_law_436 : decode cL_law 436 = .ok (.iload 10, 2) := by decide +kernel
theorem dL_law_438 : decode cL_law 438 = .ok (.aload_n 1, 1) := by decide +kernel
theorem dL_law_439 : decode cL_law 439 = .ok (.iload 10, 2) := by decide +kernel
theorem dL_law_441 : decode cL_law 441 = .ok (.iconst 1, 1) := by decide +kernel
theorem dL_law_442 : decode cL_law 442 = .ok (.invokevirtual 64, 3) := by decide +kernel
theorem dL_law_445 : decode cL_law 445 = .ok (.iastore, 1) := by decide +kernel
theorem dL_law_446 : decode cL_law 446 = .ok (.iinc 10 1, 3) := by decide +kernel
theorem dL_law_449 : decode cL_law 449 = .ok (.goto (-21), 3) := by decide +kernel
theorem dL_law_452 : decode cL_law 452 = .ok (.aload_n 1, 1) := by decide +kernel
theorem dL_law_453 : decode cL_law 453 = .ok (.invokevirtual 57, 3) := by decide +kernel
theorem dL_law_456 : decode cL_law 456 = .ok (.lload 6, 2) := by decide +kernel
theorem dL_law_458 : decode cL_law 458 = .ok (.lcmp, 1) := by decide +kernel
theorem dL_law_459 : decode cL_law 459 = .ok (.ifCond .eq 5, 3) := by decide +kernel
theorem dL_law_462 : decode cL_law 462 = .ok (.iconst 0, 1) := by decide +kernel
theorem dL_law_463 : decode cL_law 463 = .ok (.ireturn, 1) := by decide +kernel
theorem dL_law_464 : decode cL_law 464 = .ok (.aload_n 1, 1) := by decide +kernel
theorem dL_law_465 : decode cL_law 465 = .ok (.iconst 1, 1) := by decide +kernel
theorem dL_law_466 : decode cL_law 466 = .ok (.invokevirtual 67, 3) := by decide +kernel
theorem dL_law_469 : decode cL_law 469 = .ok (.pop, 1) := by decide +kernel
theorem dL_law_470 : decode cL_law 470 = .ok (.iload 8, 2) := by decide +kernel
theorem dL_law_472 : decode cL_law 472 = .ok (.ifCond .lt 7, 3) := by decide +kernel
theorem dL_law_475 : decode cL_law 475 = .ok (.iconst 1, 1) := by decide +kernel
theorem dL_law_476 : decode cL_law 476 = .ok (.goto 4, 3) := by decide +kernel
theorem dL_law_479 : decode cL_law 479 = .ok (.iconst 0, 1) := by decide +kernel
theorem dL_law_480 : decode cL_law 480 = .ok (.aload_n 1, 1) := by decide +kernel
theorem dL_law_481 : decode cL_law 481 = .ok (.bipush 6, 2) := by decide +kernel
theorem dL_law_483 : decode cL_law 483 = .ok (.invokevirtual 70, 3) := by decide +kernel
theorem dL_law_486 : decode cL_law 486 = .ok (.ifCond .le 7, 3) := by decide +kernel
theorem dL_law_489 : decode cL_law 489 = .ok (.iconst 1, 1) := by decide +kernel
theorem dL_law_490 : decode cL_law 490 = .ok (.goto 4, 3) := by decide +kernel
theorem dL_law_493 : decode cL_law 493 = .ok (.iconst 0, 1) := by decide +kernel
theorem dL_law_494 : decode cL_law 494 = .ok (.if_icmp .eq 10, 3) := by decide +kernel
theorem dL_law_497 : decode cL_law 497 = .ok (.iload 8, 2) := by decide +kernel
theorem dL_law_499 : decode cL_law 499 = .ok (.ifCond .eq 5, 3) := by decide +kernel
theorem dL_law_502 : decode cL_law 502 = .ok (.iconst 0, 1) := by decide +kernel
theorem dL_law_503 : decode cL_law 503 = .ok (.ireturn, 1) := by decide +kernel
theorem dL_law_504 : decode cL_law 504 = .ok (.iconst 0, 1) := by decide +kernel
theorem dL_law_505 : decode cL_law 505 = .ok (.istore 10, 2) := by decide +kernel
theorem dL_law_507 : decode cL_law 507 = .ok (.iconst 0, 1) := by decide +kernel
theorem dL_law_508 : decode cL_law 508 = .ok (.istore 11, 2) := by decide +kernel
theorem dL_law_510 : decode cL_law 510 = .ok (.iconst 0, 1) := by decide +kernel
theorem dL_law_511 : decode cL_law 511 = .ok (.istore 12, 2) := by decide +kernel
theorem dL_law_513 : decode cL_law 513 = .ok (.iconst 0, 1) := by decide +kernel
theorem dL_law_514 : decode cL_law 514 = .ok (.istore 13, 2) := by decide +kernel
theorem dL_law_516 : decode cL_law 516 = .ok (.iconst 0, 1) := by decide +kernel
theorem dL_law_517 : decode cL_law 517 = .ok (.istore 14, 2) := by decide +kernel
theorem dL_law_519 : decode cL_law 519 = .ok (.iload 14, 2) := by decide +kernel
theorem dL_law_521 : decode cL_law 521 = .ok (.iload_n 3, 1) := by decide +kernel
theorem dL_law_522 : decode cL_law 522 = .ok (.if_icmp .ge 445, 3) := by decide +kernel
theorem dL_law_525 : decode cL_law 525 = .ok (.aload_n 1, 1) := by decide +kernel
theorem dL_law_526 : decode cL_law 526 = .ok (.iload 14, 2) := by decide +kernel
theorem dL_law_528 : decode cL_law 528 = .ok (.iconst 4, 1) := by decide +kernel
theorem dL_law_529 : decode cL_law 529 = .ok (.invokevirtual 73, 3) := by decide +kernel
theorem dL_law_532 : decode cL_law 532 = .ok (.istore 15, 2) := by decide +kernel
theorem dL_law_534 : decode cL_law 534 = .ok (.aload_n 1, 1) := by decide +kernel
theorem dL_law_535 : decode cL_law 535 = .ok (.iload 14, 2) := by decide +kernel
theorem dL_law_537 : decode cL_law 537 = .ok (.iconst 5, 1) := by decide +kernel
theorem dL_law_538 : decode cL_law 538 = .ok (.invokevirtual 73, 3) := by decide +kernel
theorem dL_law_541 : decode cL_law 541 = .ok (.istore 16, 2) := by decide +kernel
theorem dL_law_543 : decode cL_law 543 = .ok (.aload_n 1, 1) := by decide +kernel
theorem dL_law_544 : decode cL_law 544 = .ok (.iload 14, 2) := by decide +kernel
theorem dL_law_546 : decode cL_law 546 = .ok (.bipush 6, 2) := by decide +kernel
theorem dL_law_548 : decode cL_law 548 = .ok (.invokevirtual 73, 3) := by decide +kernel
theorem dL_law_551 : decode cL_law 551 = .ok (.istore 17, 2) := by decide +kernel
theorem dL_law_553 : decode cL_law 553 = .ok (.iload 15, 2) := by decide +kernel
theorem dL_law_555 : decode cL_law 555 = .ok (.ifCond .ge 12, 3) := by decide +kernel
theorem dL_law_558 : decode cL_law 558 = .ok (.iload 16, 2) := by decide +kernel
theorem dL_law_560 : decode cL_law 560 = .ok (.ifCond .ge 7, 3) := by decide +kernel
theorem dL_law_563 : decode cL_law 563 = .ok (.iconst 1, 1) := by decide +kernel
theorem dL_law_564 : decode cL_law 564 = .ok (.goto 4, 3) := by decide +kernel
theorem dL_law_567 : decode cL_law 567 = .ok (.iconst 0, 1) := by decide +kernel
theorem dL_law_568 : decode cL_law 568 = .ok (.istore 18, 2) := by decide +kernel
theorem dL_law_570 : decode cL_law 570 = .ok (.iload 16, 2) := by decide +kernel
theorem dL_law_572 : decode cL_law 572 = .ok (.ifCond .lt 36, 3) := by decide +kernel
theorem dL_law_575 : decode cL_law 575 = .ok (.iload 15, 2) := by decide +kernel
theorem dL_law_577 : decode cL_law 577 = .ok (.ifCond .ge 63, 3) := by decide +kernel
theorem dL_law_580 : decode cL_law 580 = .ok (.aload_n 1, 1) := by decide +kernel
theorem dL_law_581 : decode cL_law 581 = .ok (.iload 16, 2) := by decide +kernel
theorem dL_law_583 : decode cL_law 583 = .ok (.iconst 1, 1) := by decide +kernel
theorem dL_law_584 : decode cL_law 584 = .ok (.invokevirtual 76, 3) := by decide +kernel
theorem dL_law_587 : decode cL_law 587 = .ok (.iload 14, 2) := by decide +kernel
theorem dL_law_589 : decode cL_law 589 = .ok (.if_icmp .ne 51, 3) := by decide +kernel
theorem dL_law_592 : decode cL_law 592 = .ok (.iload 17, 2) := by decide +kernel
theorem dL_law_594 : decode cL_law 594 = .ok (.ifCond .lt 46, 3) := by decide +kernel
theorem dL_law_597 : decode cL_law 597 = .ok (.aload_n 1, 1) := by decide +kernel
theorem dL_law_598 : decode cL_law 598 = .ok (.iload 14, 2) := by decide +kernel
theorem dL_law_600 : decode cL_law 600 = .ok (.bipush 7, 2) := by decide +kernel
theorem dL_law_602 : decode cL_law 602 = .ok (.invokevirtual 73, 3) := by decide +kernel
theorem dL_law_605 : decode cL_law 605 = .ok (.ifCond .lt 35, 3) := by decide +kernel
theorem dL_law_608 : decode cL_law 608 = .ok (.iload 16, 2) := by decide +kernel
theorem dL_law_610 : decode cL_law 610 = .ok (.ifCond .ge 32, 3) := by decide +kernel
theorem dL_law_613 : decode cL_law 613 = .ok (.iload 17, 2) := by decide +kernel
theorem dL_law_615 : decode cL_law 615 = .ok (.ifCond .ge 25, 3) := by decide +kernel
theorem dL_law_618 : decode cL_law 618 = .ok (.aload_n 1, 1) := by decide +kernel
theorem dL_law_619 : decode cL_law 619 = .ok (.iload 14, 2) := by decide +kernel
theorem dL_law_621 : decode cL_law 621 = .ok (.bipush 7, 2) := by decide +kernel
theorem dL_law_623 : decode cL_law 623 = .ok (.invokevirtual 73, 3) := by decide +kernel
theorem dL_law_626 : decode cL_law 626 = .ok (.ifCond .ne 14, 3) := by decide +kernel
theorem dL_law_629 : decode cL_law 629 = .ok (.aload_n 1, 1) := by decide +kernel
theorem dL_law_630 : decode cL_law 630 = .ok (.iload 14, 2) := by decide +kernel
theorem dL_law_632 : decode cL_law 632 = .ok (.bipush 11, 2) := by decide +kernel
theorem dL_law_634 : decode cL_law 634 = .ok (.invokevirtual 73, 3) := by decide +kernel
theorem dL_law_637 : decode cL_law 637 = .ok (.ifCond .eq 5, 3) := by decide +kernel
theorem dL_law_640 : decode cL_law 640 = .ok (.iconst 0, 1) := by decide +kernel
theorem dL_law_641 : decode cL_law 641 = .ok (.ireturn, 1) := by decide +kernel
theorem dL_law_642 : decode cL_law 642 = .ok (.iload 18, 2) := by decide +kernel
theorem dL_law_644 : decode cL_law 644 = .ok (.aload 9, 2) := by decide +kernel
theorem dL_law_646 : decode cL_law 646 = .ok (.iload 14, 2) := by decide +kernel
theorem dL_law_648 : decode cL_law 648 = .ok (.iaload, 1) := by decide +kernel
theorem dL_law_649 : decode cL_law 649 = .ok (.ifCond .lt 7, 3) := by decide +kernel
theorem dL_law_652 : decode cL_law 652 = .ok (.iconst 1, 1) := by decide +kernel
theorem dL_law_653 : decode cL_law 653 = .ok (.goto 4, 3) := by decide +kernel
theorem dL_law_656 : decode cL_law 656 = .ok (.iconst 0, 1) := by decide +kernel
theorem dL_law_657 : decode cL_law 657 = .ok (.if_icmp .ne 51, 3) := by decide +kernel
theorem dL_law_660 : decode cL_law 660 = .ok (.iload 18, 2) := by decide +kernel
theorem dL_law_662 : decode cL_law 662 = .ok (.ifCond .eq 22, 3) := by decide +kernel
theorem dL_law_665 : decode cL_law 665 = .ok (.aload_n 1, 1) := by decide +kernel
theorem dL_law_666 : decode cL_law 666 = .ok (.iload 14, 2) := by decide +kernel
theorem dL_law_668 : decode cL_law 668 = .ok (.iconst 3, 1) := by decide +kernel
theorem dL_law_669 : decode cL_law 669 = .ok (.invokevirtual 73, 3) := by decide +kernel
theorem dL_law_672 : decode cL_law 672 = .ok (.aload_n 1, 1) := by decide +kernel
theorem dL_law_673 : decode cL_law 673 = .ok (.iload 14, 2) := by decide +kernel
theorem dL_law_675 : decode cL_law 675 = .ok (.iconst 2, 1) := by decide +kernel
theorem dL_law_676 : decode cL_law 676 = .ok (.invokevirtual 73, 3) := by decide +kernel
theorem dL_law_679 : decode cL_law 679 = .ok (.iconst 1, 1) := by decide +kernel
theorem dL_law_680 : decode cL_law 680 = .ok (.isub, 1) := by decide +kernel
theorem dL_law_681 : decode cL_law 681 = .ok (.if_icmp .ne 27, 3) := by decide +kernel
theorem dL_law_684 : decode cL_law 684 = .ok (.iload 15, 2) := by decide +kernel
theorem dL_law_686 : decode cL_law 686 = .ok (.ifCond .lt 24, 3) := by decide +kernel
theorem dL_law_689 : decode cL_law 689 = .ok (.iload 15, 2) := by decide +kernel
theorem dL_law_691 : decode cL_law 691 = .ok (.aload_n 1, 1) := by decide +kernel
theorem dL_law_692 : decode cL_law 692 = .ok (.iload 14, 2) := by decide +kernel
theorem dL_law_694 : decode cL_law 694 = .ok (.aload_n 1, 1) := by decide +kernel
theorem dL_law_695 : decode cL_law 695 = .ok (.iload 14, 2) := by decide +kernel
theorem dL_law_697 : decode cL_law 697 = .ok (.iconst 3, 1) := by decide +kernel
theorem dL_law_698 : decode cL_law 698 = .ok (.invokevirtual 73, 3) := by decide +kernel
theorem dL_law_701 : decode cL_law 701 = .ok (.iconst 0, 1) := by decide +kernel
theorem dL_law_702 : decode cL_law 702 = .ok (.invokevirtual 46, 3) := by decide +kernel
theorem dL_law_705 : decode cL_law 705 = .ok (.if_icmp .eq 5, 3) := by decide +kernel
theorem dL_law_708 : decode cL_law 708 = .ok (.iconst 0, 1) := by decide +kernel
theorem dL_law_709 : decode cL_law 709 = .ok (.ireturn, 1) := by decide +kernel
theorem dL_law_710 : decode cL_law 710 = .ok (.iload 10, 2) := by decide +kernel
theorem dL_law_712 : decode cL_law 712 = .ok (.iload 15, 2) := by decide +kernel
theorem dL_law_714 : decode cL_law 714 = .ok (.ifCond .lt 7, 3) := by decide +kernel
theorem dL_law_717 : decode cL_law 717 = .ok (.iconst 1, 1) := by decide +kernel
theorem dL_law_718 : decode cL_law 718 = .ok (.goto 4, 3) := by decide +kernel
theorem dL_law_721 : decode cL_law 721 = .ok (.iconst 0, 1) := by decide +kernel
theorem dL_law_722 : decode cL_law 722 = .ok (.iadd, 1) := by decide +kernel
theorem dL_law_723 : decode cL_law 723 = .ok (.istore 10, 2) := by decide +kernel
theorem dL_law_725 : decode cL_law 725 = .ok (.iload 11, 2) := by decide +kernel
theorem dL_law_727 : decode cL_law 727 = .ok (.iload 16, 2) := by decide +kernel
theorem dL_law_729 : decode cL_law 729 = .ok (.ifCond .lt 7, 3) := by decide +kernel
theorem dL_law_732 : decode cL_law 732 = .ok (.iconst 1, 1) := by decide +kernel
theorem dL_law_733 : decode cL_law 733 = .ok (.goto 4, 3) := by decide +kernel
theorem dL_law_736 : decode cL_law 736 = .ok (.iconst 0, 1) := by decide +kernel
theorem dL_law_737 : decode cL_law 737 = .ok (.iadd, 1) := by decide +kernel
theorem dL_law_738 : decode cL_law 738 = .ok (.istore 11, 2) := by decide +kernel
theorem dL_law_740 : decode cL_law 740 = .ok (.iload 12, 2) := by decide +kernel
theorem dL_law_742 : decode cL_law 742 = .ok (.iload 18, 2) := by decide +kernel
theorem dL_law_744 : decode cL_law 744 = .ok (.ifCond .eq 7, 3) := by decide +kernel
theorem dL_law_747 : decode cL_law 747 = .ok (.iconst 1, 1) := by decide +kernel
theorem dL_law_748 : decode cL_law 748 = .ok (.goto 4, 3) := by decide +kernel
theorem dL_law_751 : decode cL_law 751 = .ok (.iconst 0, 1) := by decide +kernel
theorem dL_law_752 : decode cL_law 752 = .ok (.iadd, 1) := by decide +kernel
theorem dL_law_753 : decode cL_law 753 = .ok (.istore 12, 2) := by decide +kernel
theorem dL_law_755 : decode cL_law 755 = .ok (.iload 13, 2) := by decide +kernel
theorem dL_law_757 : decode cL_law 757 = .ok (.aload_n 1, 1) := by decide +kernel
theorem dL_law_758 : decode cL_law 758 = .ok (.iload 14, 2) := by decide +kernel
theorem dL_law_760 : decode cL_law 760 = .ok (.invokevirtual 79, 3) := by decide +kernel
theorem dL_law_763 : decode cL_law 763 = .ok (.ifCond .eq 7, 3) := by decide +kernel
theorem dL_law_766 : decode cL_law 766 = .ok (.iconst 1, 1) := by decide +kernel
theorem dL_law_767 : decode cL_law 767 = .ok (.goto 4, 3) := by decide +kernel
theorem dL_law_770 : decode cL_law 770 = .ok (.iconst 0, 1) := by decide +kernel
theorem dL_law_771 : decode cL_law 771 = .ok (.iadd, 1) := by decide +kernel
theorem dL_law_772 : decode cL_law 772 = .ok (.istore 13, 2) := by decide +kernel
theorem dL_law_774 : decode cL_law 774 = .ok (.aload_n 1, 1) := by decide +kernel
theorem dL_law_775 : decode cL_law 775 = .ok (.iload 14, 2) := by decide +kernel
theorem dL_law_777 : decode cL_law 777 = .ok (.bipush 9, 2) := by decide +kernel
theorem dL_law_779 : decode cL_law 779 = .ok (.invokevirtual 73, 3) := by decide +kernel
theorem dL_law_782 : decode cL_law 782 = .ok (.aload 4, 2) := by decide +kernel
theorem dL_law_784 : decode cL_law 784 = .ok (.iload 14, 2) := by decide +kernel
theorem dL_law_786 : decode cL_law 786 = .ok (.iaload, 1) := by decide +kernel
theorem dL_law_787 : decode cL_law 787 = .ok (.if_icmp .le 7, 3) := by decide +kernel
theorem dL_law_790 : decode cL_law 790 = .ok (.iconst 1, 1) := by decide +kernel
theorem dL_law_791 : decode cL_law 791 = .ok (.goto 4, 3) := by decide +kernel
theorem dL_law_794 : decode cL_law 794 = .ok (.iconst 0, 1) := by decide +kernel
theorem dL_law_795 : decode cL_law 795 = .ok (.istore 19, 2) := by decide +kernel
theorem dL_law_797 : decode cL_law 797 = .ok (.aload_n 1, 1) := by decide +kernel
theorem dL_law_798 : decode cL_law 798 = .ok (.iload 14, 2) := by decide +kernel
theorem dL_law_800 : decode cL_law 800 = .ok (.bipush 9, 2) := by decide +kernel
theorem dL_law_802 : decode cL_law 802 = .ok (.invokevirtual 73, 3) := by decide +kernel
theorem dL_law_805 : decode cL_law 805 = .ok (.aload 4, 2) := by decide +kernel
theorem dL_law_807 : decode cL_law 807 = .ok (.iload 14, 2) := by decide +kernel
theorem dL_law_809 : decode cL_law 809 = .ok (.iaload, 1) := by decide +kernel
theorem dL_law_810 : decode cL_law 810 = .ok (.iconst 1, 1) := by decide +kernel
theorem dL_law_811 : decode cL_law 811 = .ok (.iadd, 1) := by decide +kernel
theorem dL_law_812 : decode cL_law 812 = .ok (.if_icmp .gt 62, 3) := by decide +kernel
theorem dL_law_815 : decode cL_law 815 = .ok (.iload 19, 2) := by decide +kernel
theorem dL_law_817 : decode cL_law 817 = .ok (.aload_n 1, 1) := by decide +kernel
theorem dL_law_818 : decode cL_law 818 = .ok (.iload 14, 2) := by decide +kernel
theorem dL_law_820 : decode cL_law 820 = .ok (.bipush 10, 2) := by decide +kernel
theorem dL_law_822 : decode cL_law 822 = .ok (.invokevirtual 73, 3) := by decide +kernel
theorem dL_law_825 : decode cL_law 825 = .ok (.iconst 1, 1) := by decide +kernel
theorem dL_law_826 : decode cL_law 826 = .ok (.if_icmp .eq 15, 3) := by decide +kernel
theorem dL_law_829 : decode cL_law 829 = .ok (.aload_n 1, 1) := by decide +kernel
theorem dL_law_830 : decode cL_law 830 = .ok (.iload 14, 2) := by decide +kernel
theorem dL_law_832 : decode cL_law 832 = .ok (.bipush 11, 2) := by decide +kernel
theorem dL_law_834 : decode cL_law 834 = .ok (.invokevirtual 73, 3) := by decide +kernel
theorem dL_law_837 : decode cL_law 837 = .ok (.iconst 1, 1) := by decide +kernel
theorem dL_law_838 : decode cL_law 838 = .ok (.if_icmp .ne 7, 3) := by decide +kernel
theorem dL_law_841 : decode cL_law 841 = .ok (.iconst 1, 1) := by decide +kernel
theorem dL_law_842 : decode cL_law 842 = .ok (.goto 4, 3) := by decide +kernel
theorem dL_law_845 : decode cL_law 845 = .ok (.iconst 0, 1) := by decide +kernel
theorem dL_law_846 : decode cL_law 846 = .ok (.if_icmp .ne 28, 3) := by decide +kernel
theorem dL_law_849 : decode cL_law 849 = .ok (.aload_n 1, 1) := by decide +kernel
theorem dL_law_850 : decode cL_law 850 = .ok (.iload 14, 2) := by decide +kernel
theorem dL_law_852 : decode cL_law 852 = .ok (.invokevirtual 83, 3) := by decide +kernel
theorem dL_law_855 : decode cL_law 855 = .ok (.ifCond .lt 8, 3) := by decide +kernel
theorem dL_law_858 : decode cL_law 858 = .ok (.iload 19, 2) := by decide +kernel
theorem dL_law_860 : decode cL_law 860 = .ok (.ifCond .eq 14, 3) := by decide +kernel
theorem dL_law_863 : decode cL_law 863 = .ok (.aload_n 1, 1) := by decide +kernel
theorem dL_law_864 : decode cL_law 864 = .ok (.iload 14, 2) := by decide +kernel
theorem dL_law_866 : decode cL_law 866 = .ok (.invokevirtual 83, 3) := by decide +kernel
theorem dL_law_869 : decode cL_law 869 = .ok (.iload 14, 2) := by decide +kernel
theorem dL_law_871 : decode cL_law 871 = .ok (.if_icmp .ne 5, 3) := by decide +kernel
theorem dL_law_874 : decode cL_law 874 = .ok (.iconst 0, 1) := by decide +kernel
theorem dL_law_875 : decode cL_law 875 = .ok (.ireturn, 1) := by decide +kernel
theorem dL_law_876 : decode cL_law 876 = .ok (.aload 4, 2) := by decide +kernel
theorem dL_law_878 : decode cL_law 878 = .ok (.iload 14, 2) := by decide +kernel
theorem dL_law_880 : decode cL_law 880 = .ok (.aload_n 1, 1) := by decide +kernel
theorem dL_law_881 : decode cL_law 881 = .ok (.iload 14, 2) := by decide +kernel
theorem dL_law_883 : decode cL_law 883 = .ok (.bipush 9, 2) := by decide +kernel
theorem dL_law_885 : decode cL_law 885 = .ok (.invokevirtual 73, 3) := by decide +kernel
theorem dL_law_888 : decode cL_law 888 = .ok (.iastore, 1) := by decide +kernel
theorem dL_law_889 : decode cL_law 889 = .ok (.iconst 0, 1) := by decide +kernel
theorem dL_law_890 : decode cL_law 890 = .ok (.istore 20, 2) := by decide +kernel
theorem dL_law_892 : decode cL_law 892 = .ok (.iconst 0, 1) := by decide +kernel
theorem dL_law_893 : decode cL_law 893 = .ok (.istore 21, 2) := by decide +kernel
theorem dL_law_895 : decode cL_law 895 = .ok (.iload 21, 2) := by decide +kernel
theorem dL_law_897 : decode cL_law 897 = .ok (.iload_n 3, 1) := by decide +kernel
theorem dL_law_898 : decode cL_law 898 = .ok (.if_icmp .ge 22, 3) := by decide +kernel
theorem dL_law_901 : decode cL_law 901 = .ok (.iload 20, 2) := by decide +kernel
theorem dL_law_903 : decode cL_law 903 = .ok (.aload_n 1, 1) := by decide +kernel
theorem dL_law_904 : decode cL_law 904 = .ok (.iload 14, 2) := by decide +kernel
theorem dL_law_906 : decode cL_law 906 = .ok (.iload 21, 2) := by decide +kernel
theorem dL_law_908 : decode cL_law 908 = .ok (.invokevirtual 86, 3) := by decide +kernel
theorem dL_law_911 : decode cL_law 911 = .ok (.iadd, 1) := by decide +kernel
theorem dL_law_912 : decode cL_law 912 = .ok (.istore 20, 2) := by decide +kernel
theorem dL_law_914 : decode cL_law 914 = .ok (.iinc 21 1, 3) := by decide +kernel
theorem dL_law_917 : decode cL_law 917 = .ok (.goto (-22), 3) := by decide +kernel
theorem dL_law_920 : decode cL_law 920 = .ok (.iload 20, 2) := by decide +kernel
theorem dL_law_922 : decode cL_law 922 = .ok (.aload 4, 2) := by decide +kernel
theorem dL_law_924 : decode cL_law 924 = .ok (.iload 14, 2) := by decide +kernel
theorem dL_law_926 : decode cL_law 926 = .ok (.iaload, 1) := by decide +kernel
theorem dL_law_927 : decode cL_law 927 = .ok (.if_icmp .gt 32, 3) := by decide +kernel
theorem dL_law_930 : decode cL_law 930 = .ok (.aload_n 1, 1) := by decide +kernel
theorem dL_law_931 : decode cL_law 931 = .ok (.iload 14, 2) := by decide +kernel
theorem dL_law_933 : decode cL_law 933 = .ok (.iload 14, 2) := by decide +kernel
theorem dL_law_935 : decode cL_law 935 = .ok (.invokevirtual 86, 3) := by decide +kernel
theorem dL_law_938 : decode cL_law 938 = .ok (.ifCond .ne 21, 3) := by decide +kernel
theorem dL_law_941 : decode cL_law 941 = .ok (.aload_n 1, 1) := by decide +kernel
theorem dL_law_942 : decode cL_law 942 = .ok (.iload 14, 2) := by decide +kernel
theorem dL_law_944 : decode cL_law 944 = .ok (.invokevirtual 79, 3) := by decide +kernel
theorem dL_law_947 : decode cL_law 947 = .ok (.ifCond .eq 14, 3) := by decide +kernel
theorem dL_law_950 : decode cL_law 950 = .ok (.aload_n 1, 1) := by decide +kernel
theorem dL_law_951 : decode cL_law 951 = .ok (.iload 14, 2) := by decide +kernel
theorem dL_law_953 : decode cL_law 953 = .ok (.invokevirtual 83, 3) := by decide +kernel
theorem dL_law_956 : decode cL_law 956 = .ok (.ifCond .ge 5, 3) := by decide +kernel
theorem dL_law_959 : decode cL_law 959 = .ok (.iconst 0, 1) := by decide +kernel
theorem dL_law_960 : decode cL_law 960 = .ok (.ireturn, 1) := by decide +kernel
theorem dL_law_961 : decode cL_law 961 = .ok (.iinc 14 1, 3) := by decide +kernel
theorem dL_law_964 : decode cL_law 964 = .ok (.goto (-445), 3) := by decide +kernel
theorem dL_law_967 : decode cL_law 967 = .ok (.aload_n 1, 1) := by decide +kernel
theorem dL_law_968 : decode cL_law 968 = .ok (.iconst 3, 1) := by decide +kernel
theorem dL_law_969 : decode cL_law 969 = .ok (.invokevirtual 70, 3) := by decide +kernel
theorem dL_law_972 : decode cL_law 972 = .ok (.iload 12, 2) := by decide +kernel
theorem dL_law_974 : decode cL_law 974 = .ok (.if_icmp .ne 46, 3) := by decide +kernel
theorem dL_law_977 : decode cL_law 977 = .ok (.aload_n 1, 1) := by decide +kernel
theorem dL_law_978 : decode cL_law 978 = .ok (.iconst 4, 1) := by decide +kernel
theorem dL_law_979 : decode cL_law 979 = .ok (.invokevirtual 70, 3) := by decide +kernel
theorem dL_law_982 : decode cL_law 982 = .ok (.iload 10, 2) := by decide +kernel
theorem dL_law_984 : decode cL_law 984 = .ok (.if_icmp .ne 36, 3) := by decide +kernel
theorem dL_law_987 : decode cL_law 987 = .ok (.aload_n 1, 1) := by decide +kernel
theorem dL_law_988 : decode cL_law 988 = .ok (.iconst 5, 1) := by decide +kernel
theorem dL_law_989 : decode cL_law 989 = .ok (.invokevirtual 70, 3) := by decide +kernel
theorem dL_law_992 : decode cL_law 992 = .ok (.iload 11, 2) := by decide +kernel
theorem dL_law_994 : decode cL_law 994 = .ok (.if_icmp .ne 26, 3) := by decide +kernel
theorem dL_law_997 : decode cL_law 997 = .ok (.aload_n 1, 1) := by decide +kernel
theorem dL_law_998 : decode cL_law 998 = .ok (.bipush 6, 2) := by decide +kernel
theorem dL_law_1000 : decode cL_law 1000 = .ok (.invokevirtual 70, 3) := by decide +kernel
theorem dL_law_1003 : decode cL_law 1003 = .ok (.iload 13, 2) := by decide +kernel
theorem dL_law_1005 : decode cL_law 1005 = .ok (.if_icmp .ne 15, 3) := by decide +kernel
theorem dL_law_1008 : decode cL_law 1008 = .ok (.iload 10, 2) := by decide +kernel
theorem dL_law_1010 : decode cL_law 1010 = .ok (.iload 11, 2) := by decide +kernel
theorem dL_law_1012 : decode cL_law 1012 = .ok (.iadd, 1) := by decide +kernel
theorem dL_law_1013 : decode cL_law 1013 = .ok (.iload 12, 2) := by decide +kernel
theorem dL_law_1015 : decode cL_law 1015 = .ok (.iadd, 1) := by decide +kernel
theorem dL_law_1016 : decode cL_law 1016 = .ok (.iload_n 3, 1) := by decide +kernel
theorem dL_law_1017 : decode cL_law 1017 = .ok (.if_icmp .eq 5, 3) := by decide +kernel
theorem dL_law_1020 : decode cL_law 1020 = .ok (.iconst 0, 1) := by decide +kernel
theorem dL_law_1021 : decode cL_law 1021 = .ok (.ireturn, 1) := by decide +kernel
theorem dL_law_1022 : decode cL_law 1022 = .ok (.iconst 0, 1) := by decide +kernel
theorem dL_law_1023 : decode cL_law 1023 = .ok (.istore 14, 2) := by decide +kernel
theorem dL_law_1025 : decode cL_law 1025 = .ok (.iconst 0, 1) := by decide +kernel
theorem dL_law_1026 : decode cL_law 1026 = .ok (.istore 15, 2) := by decide +kernel
theorem dL_law_1028 : decode cL_law 1028 = .ok (.iload 15, 2) := by decide +kernel
theorem dL_law_1030 : decode cL_law 1030 = .ok (.iload_n 2, 1) := by decide +kernel
theorem dL_law_1031 : decode cL_law 1031 = .ok (.if_icmp .ge 106, 3) := by decide +kernel
theorem dL_law_1034 : decode cL_law 1034 = .ok (.aload_n 1, 1) := by decide +kernel
theorem dL_law_1035 : decode cL_law 1035 = .ok (.iload 15, 2) := by decide +kernel
theorem dL_law_1037 : decode cL_law 1037 = .ok (.iconst 1, 1) := by decide +kernel
theorem dL_law_1038 : decode cL_law 1038 = .ok (.invokevirtual 76, 3) := by decide +kernel
theorem dL_law_1041 : decode cL_law 1041 = .ok (.istore 16, 2) := by decide +kernel
theorem dL_law_1043 : decode cL_law 1043 = .ok (.iload 14, 2) := by decide +kernel
theorem dL_law_1045 : decode cL_law 1045 = .ok (.iload 16, 2) := by decide +kernel
theorem dL_law_1047 : decode cL_law 1047 = .ok (.ifCond .lt 7, 3) := by decide +kernel
theorem dL_law_1050 : decode cL_law 1050 = .ok (.iconst 1, 1) := by decide +kernel
theorem dL_law_1051 : decode cL_law 1051 = .ok (.goto 4, 3) := by decide +kernel
theorem dL_law_1054 : decode cL_law 1054 = .ok (.iconst 0, 1) := by decide +kernel
theorem dL_law_1055 : decode cL_law 1055 = .ok (.iadd, 1) := by decide +kernel
theorem dL_law_1056 : decode cL_law 1056 = .ok (.istore 14, 2) := by decide +kernel
theorem dL_law_1058 : decode cL_law 1058 = .ok (.iload 16, 2) := by decide +kernel
theorem dL_law_1060 : decode cL_law 1060 = .ok (.ifCond .lt 27, 3) := by decide +kernel
theorem dL_law_1063 : decode cL_law 1063 = .ok (.aload_n 1, 1) := by decide +kernel
theorem dL_law_1064 : decode cL_law 1064 = .ok (.iload 16, 2) := by decide +kernel
theorem dL_law_1066 : decode cL_law 1066 = .ok (.iconst 5, 1) := by decide +kernel
theorem dL_law_1067 : decode cL_law 1067 = .ok (.invokevirtual 73, 3) := by decide +kernel
theorem dL_law_1070 : decode cL_law 1070 = .ok (.iload 15, 2) := by decide +kernel
theorem dL_law_1072 : decode cL_law 1072 = .ok (.if_icmp .ne 13, 3) := by decide +kernel
theorem dL_law_1075 : decode cL_law 1075 = .ok (.aload_n 1, 1) := by decide +kernel
theorem dL_law_1076 : decode cL_law 1076 = .ok (.iload 15, 2) := by decide +kernel
theorem dL_law_1078 : decode cL_law 1078 = .ok (.iconst 2, 1) := by decide +kernel
theorem dL_law_1079 : decode cL_law 1079 = .ok (.invokevirtual 76, 3) := by decide +kernel
theorem dL_law_1082 : decode cL_law 1082 = .ok (.ifCond .lt 5, 3) := by decide +kernel
theorem dL_law_1085 : decode cL_law 1085 = .ok (.iconst 0, 1) := by decide +kernel
theorem dL_law_1086 : decode cL_law 1086 = .ok (.ireturn, 1) := by decide +kernel
theorem dL_law_1087 : decode cL_law 1087 = .ok (.aload_n 1, 1) := by decide +kernel
theorem dL_law_1088 : decode cL_law 1088 = .ok (.iload 15, 2) := by decide +kernel
theorem dL_law_1090 : decode cL_law 1090 = .ok (.iconst 2, 1) := by decide +kernel
theorem dL_law_1091 : decode cL_law 1091 = .ok (.invokevirtual 76, 3) := by decide +kernel
theorem dL_law_1094 : decode cL_law 1094 = .ok (.istore 17, 2) := by decide +kernel
theorem dL_law_1096 : decode cL_law 1096 = .ok (.iload 17, 2) := by decide +kernel
theorem dL_law_1098 : decode cL_law 1098 = .ok (.ifCond .lt 33, 3) := by decide +kernel
theorem dL_law_1101 : decode cL_law 1101 = .ok (.aload_n 1, 1) := by decide +kernel
theorem dL_law_1102 : decode cL_law 1102 = .ok (.iload 17, 2) := by decide +kernel
theorem dL_law_1104 : decode cL_law 1104 = .ok (.bipush 6, 2) := by decide +kernel
theorem dL_law_1106 : decode cL_law 1106 = .ok (.invokevirtual 73, 3) := by decide +kernel
theorem dL_law_1109 : decode cL_law 1109 = .ok (.ifCond .lt 20, 3) := by decide +kernel
theorem dL_law_1112 : decode cL_law 1112 = .ok (.aload_n 1, 1) := by decide +kernel
theorem dL_law_1113 : decode cL_law 1113 = .ok (.aload_n 1, 1) := by decide +kernel
theorem dL_law_1114 : decode cL_law 1114 = .ok (.iload 17, 2) := by decide +kernel
theorem dL_law_1116 : decode cL_law 1116 = .ok (.bipush 6, 2) := by decide +kernel
theorem dL_law_1118 : decode cL_law 1118 = .ok (.invokevirtual 73, 3) := by decide +kernel
theorem dL_law_1121 : decode cL_law 1121 = .ok (.iconst 3, 1) := by decide +kernel
theorem dL_law_1122 : decode cL_law 1122 = .ok (.invokevirtual 30, 3) := by decide +kernel
theorem dL_law_1125 : decode cL_law 1125 = .ok (.iconst 1, 1) := by decide +kernel
theorem dL_law_1126 : decode cL_law 1126 = .ok (.if_icmp .eq 5, 3) := by decide +kernel
theorem dL_law_1129 : decode cL_law 1129 = .ok (.iconst 0, 1) := by decide +kernel
theorem dL_law_1130 : decode cL_law 1130 = .ok (.ireturn, 1) := by decide +kernel
theorem dL_law_1131 : decode cL_law 1131 = .ok (.iinc 15 1, 3) := by decide +kernel
theorem dL_law_1134 : decode cL_law 1134 = .ok (.goto (-106), 3) := by decide +kernel
theorem dL_law_1137 : decode cL_law 1137 = .ok (.iload 14, 2) := by decide +kernel
theorem dL_law_1139 : decode cL_law 1139 = .ok (.iload 11, 2) := by decide +kernel
theorem dL_law_1141 : decode cL_law 1141 = .ok (.if_icmp .eq 5, 3) := by decide +kernel
theorem dL_law_1144 : decode cL_law 1144 = .ok (.iconst 0, 1) := by decide +kernel
theorem dL_law_1145 : decode cL_law 1145 = .ok (.ireturn, 1) := by decide +kernel
theorem dL_law_1146 : decode cL_law 1146 = .ok (.iconst 0, 1) := by decide +kernel
theorem dL_law_1147 : decode cL_law 1147 = .ok (.istore 15, 2) := by decide +kernel
theorem dL_law_1149 : decode cL_law 1149 = .ok (.iload 15, 2) := by decide +kernel
theorem dL_law_1151 : decode cL_law 1151 = .ok (.bipush 6, 2) := by decide +kernel
theorem dL_law_1153 : decode cL_law 1153 = .ok (.if_icmp .ge 36, 3) := by decide +kernel
theorem dL_law_1156 : decode cL_law 1156 = .ok (.aload_n 1, 1) := by decide +kernel
theorem dL_law_1157 : decode cL_law 1157 = .ok (.iload 15, 2) := by decide +kernel
theorem dL_law_1159 : decode cL_law 1159 = .ok (.iconst 1, 1) := by decide +kernel
theorem dL_law_1160 : decode cL_law 1160 = .ok (.invokevirtual 39, 3) := by decide +kernel
theorem dL_law_1163 : decode cL_law 1163 = .ok (.aload_n 1, 1) := by decide +kernel
theorem dL_law_1164 : decode cL_law 1164 = .ok (.iload 15, 2) := by decide +kernel
theorem dL_law_1166 : decode cL_law 1166 = .ok (.iconst 2, 1) := by decide +kernel
theorem dL_law_1167 : decode cL_law 1167 = .ok (.invokevirtual 39, 3) := by decide +kernel
theorem dL_law_1170 : decode cL_law 1170 = .ok (.iadd, 1) := by decide +kernel
theorem dL_law_1171 : decode cL_law 1171 = .ok (.aload_n 1, 1) := by decide +kernel
theorem dL_law_1172 : decode cL_law 1172 = .ok (.iload 15, 2) := by decide +kernel
theorem dL_law_1174 : decode cL_law 1174 = .ok (.iconst 0, 1) := by decide +kernel
theorem dL_law_1175 : decode cL_law 1175 = .ok (.invokevirtual 39, 3) := by decide +kernel
theorem dL_law_1178 : decode cL_law 1178 = .ok (.if_icmp .le 5, 3) := by decide +kernel
theorem dL_law_1181 : decode cL_law 1181 = .ok (.iconst 0, 1) := by decide +kernel
theorem dL_law_1182 : decode cL_law 1182 = .ok (.ireturn, 1) := by decide +kernel
theorem dL_law_1183 : decode cL_law 1183 = .ok (.iinc 15 1, 3) := by decide +kernel
theorem dL_law_1186 : decode cL_law 1186 = .ok (.goto (-37), 3) := by decide +kernel
theorem dL_law_1189 : decode cL_law 1189 = .ok (.iinc 5 1, 3) := by decide +kernel
theorem dL_law_1192 : decode cL_law 1192 = .ok (.goto (-792), 3) := by decide +kernel
theorem dL_law_1195 : decode cL_law 1195 = .ok (.iconst 1, 1) := by decide +kernel
theorem dL_law_1196 : decode cL_law 1196 = .ok (.ireturn, 1) := by decide +kernel
end
section
/-! The world: one cell for the bay, 85 for each of its two Lines. A state of a Line: S f k j (f: the field's code, k: which object, j: the place in its array). -/
abbrev St : Type := Nat → Nat → Nat → Int32
def up (S : St) (f k j : Nat) (x : Int32) : St := fun f' k' j' => if f' = f ∧ k' = k ∧ j' = j then x else S f' k' j'
def upL (V : Nat → St) (w : Nat) (S : St) : Nat → St := fun w' => if w' = w then S else V w'
theorem upL_same (V : Nat → St) (w : Nat) (S : St) : upL V w S w = S := if_pos rfl
theorem upL_ne {V : Nat → St} {w w' : Nat} {S : St} (h : w' ≠ w) : upL V w S w' = V w' := if_neg h
theorem upL_upL (V : Nat → St) (w : Nat) (S S' : St) : upL (upL V w S) w S' = upL V w S' := by
  funext w'
  by_cases h : w' = w
  · simp [upL, h]
  · simp [upL, h]
theorem upL_self (V : Nat → St) (w : Nat) : upL V w (V w) = V := by
  funext w'
  by_cases h : w' = w
  · simp [upL, h]
  · simp [upL, h]
abbrev Gm : Type := (Nat → Nat) × va_G × (ClassId × ClassId × ClassId × ClassId)
def ad (Z : Gm) : Nat → Nat := Z.1
def gD (Z : Gm) : va_G := Z.2.1
def gT (Z : Gm) : List (ClassId × FieldType) := [(Z.2.2.1, .int), (Z.2.2.2.1, .object RX0), (Z.2.2.2.2.1, .object RX2), (Z.2.2.2.2.2, .object RX3)]
def cLn (w : Nat) : Nat := 1 + 85 * w
def cPl (w : Nat) : Nat := 2 + 85 * w
def cBs (w : Nat) : Nat := 3 + 85 * w
def cRs (w : Nat) : Nat := 4 + 85 * w
def cTs (w : Nat) : Nat := 5 + 85 * w
def cBk (w k : Nat) : Nat := 6 + 85 * w + k
def cRt (w k : Nat) : Nat := 22 + 85 * w + 2 * k
def cRb (w k : Nat) : Nat := 23 + 85 * w + 2 * k
def cTr (w k : Nat) : Nat := 54 + 85 * w + 4 * k
def cSt (w k : Nat) : Nat := 55 + 85 * w + 4 * k
def cTm (w k : Nat) : Nat := 56 + 85 * w + 4 * k
def cWf (w k : Nat) : Nat := 57 + 85 * w + 4 * k
def fLn (Z : Gm) (w : Nat) (S : St) : List Value := [.ref (ad Z (cPl w)), .ref (ad Z (cBs w)), .int (S 2 0 0), .ref (ad Z (cRs w)), .int (S 4 0 0), .ref (ad Z (cTs w)), .int (S 6 0 0), .int (S 7 0 0), .int (S 8 0 0), .int (S 9 0 0)]
def fBk (S : St) (k : Nat) : List Value := [.int (S 10 k 0), .int (S 11 k 0), .int (S 12 k 0), .int (S 13 k 0)]
def fRt (Z : Gm) (w : Nat) (S : St) (k : Nat) : List Value := [.int (S 20 k 0), .int (S 21 k 0), .int (S 22 k 0), .int (S 23 k 0), .ref (ad Z (cRb w k))]
def fTr (Z : Gm) (w : Nat) (S : St) (k : Nat) : List Value := [.int (S 30 k 0), .int (S 31 k 0), .int (S 32 k 0), .ref (ad Z (cSt w k)), .ref (ad Z (cTm w k)), .int (S 35 k 0), .int (S 36 k 0), .int (S 37 k 0), .int (S 38 k 0), .int (S 39 k 0), .int (S 40 k 0), .int (S 41 k 0), .int (S 42 k 0), .int (S 43 k 0), .int (S 44 k 0), .ref (ad Z (cWf w k))]
def lineCell (Z : Gm) (w : Nat) (S : St) (m : Nat) : va_E :=
  if m = 0 then .inr (1, fLn Z w S)
  else if m = 1 then .inl (Z.2.2.1, 6, .inl (fun j => S 0 0 j))
  else if m = 2 then .inl (Z.2.2.2.1, 16, .inr (.inr (.inr (.inr (fun j => some (ad Z (cBk w j)))))))
  else if m = 3 then .inl (Z.2.2.2.2.1, 16, .inr (.inr (.inr (.inr (fun j => some (ad Z (cRt w j)))))))
  else if m = 4 then .inl (Z.2.2.2.2.2, 8, .inr (.inr (.inr (.inr (fun j => some (ad Z (cTr w j)))))))
  else if m < 21 then .inr (0, fBk S (m - 5))
  else if m < 53 then (if (m - 21) % 2 = 0 then .inr (2, fRt Z w S ((m - 21) / 2)) else .inl (Z.2.2.1, 5, .inl (fun j => S 24 ((m - 21) / 2) j)))
  else if (m - 53) % 4 = 0 then .inr (3, fTr Z w S ((m - 53) / 4))
  else if (m - 53) % 4 = 1 then .inl (Z.2.2.1, 8, .inl (fun j => S 33 ((m - 53) / 4) j))
  else if (m - 53) % 4 = 2 then .inl (Z.2.2.1, 8, .inl (fun j => S 34 ((m - 53) / 4) j))
  else .inl (Z.2.2.1, 8, .inl (fun j => S 45 ((m - 53) / 4) j))
def cellOf (Z : Gm) (V : Nat → St) (n : Nat) : va_E := if n = 0 then .inr (4, [.ref (ad Z (cLn 0)), .ref (ad Z (cLn 1))]) else lineCell Z ((n - 1) / 85) (V ((n - 1) / 85)) ((n - 1) % 85)
def bw (Z : Gm) (V : Nat → St) : va_W := (List.range 171).map (fun n => (ad Z n, cellOf Z V n))
theorem bw_at {Z : Gm} {V : Nat → St} {n : Nat} (h : n < 171) : (bw Z V)[n]? = some (ad Z n, cellOf Z V n) := by simp [bw, h]
theorem cell_at {Z : Gm} {V : Nat → St} {w m n : Nat} {S : St} (hn : n = 1 + 85 * w + m) (hm : m < 85) (hV : V w = S) : cellOf Z V n = lineCell Z w S m := by
  have h1 : (n - 1) / 85 = w := by omega
  have h2 : (n - 1) % 85 = m := by omega
  unfold cellOf
  rw [if_neg (by omega), h1, h2, hV]
section AT
variable {Z : Gm} {V : Nat → St} {w k : Nat} {S : St}
theorem at_bay : (bw Z V)[0]? = some (ad Z 0, .inr (4, [.ref (ad Z (cLn 0)), .ref (ad Z (cLn 1))])) := bw_at (by decide)
theorem at_ln (hV : V w = S) (hw : w < 2) : (bw Z V)[cLn w]? = some (ad Z (cLn w), .inr (1, fLn Z w S)) := by
  rw [bw_at (by unfold cLn; omega), cell_at (w := w) (m := 0) (by unfold cLn; omega) (by omega) hV]
  simp [lineCell]
theorem at_pl (hV : V w = S) (hw : w < 2) : (bw Z V)[cPl w]? = some (ad Z (cPl w), .inl (Z.2.2.1, 6, .inl (fun j => S 0 0 j))) := by
  rw [bw_at (by unfold cPl; omega), cell_at (w := w) (m := 1) (by unfold cPl; omega) (by omega) hV]
  simp [lineCell]
theorem at_bs (hw : w < 2) : (bw Z V)[cBs w]? = some (ad Z (cBs w), .inl (Z.2.2.2.1, 16, .inr (.inr (.inr (.inr (fun j => some (ad Z (cBk w j)))))))) := by
  rw [bw_at (by unfold cBs; omega), cell_at (w := w) (m := 2) (by unfold cBs; omega) (by omega) rfl]
  simp [lineCell]
theorem at_rs (hw : w < 2) : (bw Z V)[cRs w]? = some (ad Z (cRs w), .inl (Z.2.2.2.2.1, 16, .inr (.inr (.inr (.inr (fun j => some (ad Z (cRt w j)))))))) := by
  rw [bw_at (by unfold cRs; omega), cell_at (w := w) (m := 3) (by unfold cRs; omega) (by omega) rfl]
  simp [lineCell]
theorem at_ts (hw : w < 2) : (bw Z V)[cTs w]? = some (ad Z (cTs w), .inl (Z.2.2.2.2.2, 8, .inr (.inr (.inr (.inr (fun j => some (ad Z (cTr w j)))))))) := by
  rw [bw_at (by unfold cTs; omega), cell_at (w := w) (m := 4) (by unfold cTs; omega) (by omega) rfl]
  simp [lineCell]
theorem at_bk (hV : V w = S) (hw : w < 2) (hk : k < 16) : (bw Z V)[cBk w k]? = some (ad Z (cBk w k), .inr (0, fBk S k)) := by
  rw [bw_at (by unfold cBk; omega), cell_at (w := w) (m := 5 + k) (by unfold cBk; omega) (by omega) hV]
  unfold lineCell
  rw [if_neg (by omega), if_neg (by omega), if_neg (by omega), if_neg (by omega), if_neg (by omega), if_pos (by omega), show 5 + k - 5 = k by omega]
theorem at_rt (hV : V w = S) (hw : w < 2) (hk : k < 16) : (bw Z V)[cRt w k]? = some (ad Z (cRt w k), .inr (2, fRt Z w S k)) := by
  rw [bw_at (by unfold cRt; omega), cell_at (w := w) (m := 21 + 2 * k) (by unfold cRt; omega) (by omega) hV]
  unfold lineCell
  rw [if_neg (by omega), if_neg (by omega), if_neg (by omega), if_neg (by omega), if_neg (by omega), if_neg (by omega), if_pos (by omega), if_pos (by omega), show (21 + 2 * k - 21) / 2 = k by omega]
theorem at_rb (hV : V w = S) (hw : w < 2) (hk : k < 16) : (bw Z V)[cRb w k]? = some (ad Z (cRb w k), .inl (Z.2.2.1, 5, .inl (fun j => S 24 k j))) := by
  rw [bw_at (by unfold cRb; omega), cell_at (w := w) (m := 22 + 2 * k) (by unfold cRb; omega) (by omega) hV]
  unfold lineCell
  rw [if_neg (by omega), if_neg (by omega), if_neg (by omega), if_neg (by omega), if_neg (by omega), if_neg (by omega), if_pos (by omega), if_neg (by omega), show (22 + 2 * k - 21) / 2 = k by omega]
theorem at_tr (hV : V w = S) (hw : w < 2) (hk : k < 8) : (bw Z V)[cTr w k]? = some (ad Z (cTr w k), .inr (3, fTr Z w S k)) := by
  rw [bw_at (by unfold cTr; omega), cell_at (w := w) (m := 53 + 4 * k) (by unfold cTr; omega) (by omega) hV]
  unfold lineCell
  rw [if_neg (by omega), if_neg (by omega), if_neg (by omega), if_neg (by omega), if_neg (by omega), if_neg (by omega), if_neg (by omega), if_pos (by omega), show (53 + 4 * k - 53) / 4 = k by omega]
theorem at_st (hV : V w = S) (hw : w < 2) (hk : k < 8) : (bw Z V)[cSt w k]? = some (ad Z (cSt w k), .inl (Z.2.2.1, 8, .inl (fun j => S 33 k j))) := by
  rw [bw_at (by unfold cSt; omega), cell_at (w := w) (m := 54 + 4 * k) (by unfold cSt; omega) (by omega) hV]
  unfold lineCell
  rw [if_neg (by omega), if_neg (by omega), if_neg (by omega), if_neg (by omega), if_neg (by omega), if_neg (by omega), if_neg (by omega), if_neg (by omega), if_pos (by omega), show (54 + 4 * k - 53) / 4 = k by omega]
theorem at_tm (hV : V w = S) (hw : w < 2) (hk : k < 8) : (bw Z V)[cTm w k]? = some (ad Z (cTm w k), .inl (Z.2.2.1, 8, .inl (fun j => S 34 k j))) := by
  rw [bw_at (by unfold cTm; omega), cell_at (w := w) (m := 55 + 4 * k) (by unfold cTm; omega) (by omega) hV]
  unfold lineCell
  rw [if_neg (by omega), if_neg (by omega), if_neg (by omega), if_neg (by omega), if_neg (by omega), if_neg (by omega), if_neg (by omega), if_neg (by omega), if_neg (by omega), if_pos (by omega), show (55 + 4 * k - 53) / 4 = k by omega]
theorem at_wf (hV : V w = S) (hw : w < 2) (hk : k < 8) : (bw Z V)[cWf w k]? = some (ad Z (cWf w k), .inl (Z.2.2.1, 8, .inl (fun j => S 45 k j))) := by
  rw [bw_at (by unfold cWf; omega), cell_at (w := w) (m := 56 + 4 * k) (by unfold cWf; omega) (by omega) hV]
  unfold lineCell
  rw [if_neg (by omega), if_neg (by omega), if_neg (by omega), if_neg (by omega), if_neg (by omega), if_neg (by omega), if_neg (by omega), if_neg (by omega), if_neg (by omega), if_neg (by omega), show (56 + 4 * k - 53) / 4 = k by omega]
end AT
/-- the cell that holds the field f of the k-th object of the line w -/
def ownc (w f k : Nat) : Nat := if f = 0 then cPl w else if f < 10 then cLn w else if f < 20 then cBk w k else if f = 24 then cRb w k else if f < 30 then cRt w k else if f = 33 then cSt w k else if f = 34 then cTm w k else if f = 45 then cWf w k else cTr w k
theorem line_cg {Z : Gm} {w m n : Nat} {S S' : St} (hm : m < 85) (hmn : 1 + 85 * w + m ≠ n) (h : ∀ f k j, ownc w f k ≠ n → S' f k j = S f k j) : lineCell Z w S' m = lineCell Z w S m := by
  unfold lineCell
  by_cases c0 : m = 0
  · rw [if_pos c0, if_pos c0]
    have e : ∀ f, f ≠ 0 → f < 10 → S' f 0 0 = S f 0 0 := fun f h0 h1 => h f 0 0 (by unfold ownc; rw [if_neg h0, if_pos h1]; unfold cLn; omega)
    unfold fLn
    rw [e 2 (by omega) (by omega), e 4 (by omega) (by omega), e 6 (by omega) (by omega), e 7 (by omega) (by omega), e 8 (by omega) (by omega), e 9 (by omega) (by omega)]
  rw [if_neg c0, if_neg c0]
  by_cases c1 : m = 1
  · rw [if_pos c1, if_pos c1]
    have e : (fun j => S' 0 0 j) = (fun j => S 0 0 j) := funext fun j => h 0 0 j (by unfold ownc; rw [if_pos rfl]; unfold cPl; omega)
    rw [e]
  rw [if_neg c1, if_neg c1]
  by_cases c2 : m = 2
  · rw [if_pos c2, if_pos c2]
  rw [if_neg c2, if_neg c2]
  by_cases c3 : m = 3
  · rw [if_pos c3, if_pos c3]
  rw [if_neg c3, if_neg c3]
  by_cases c4 : m = 4
  · rw [if_pos c4, if_pos c4]
  rw [if_neg c4, if_neg c4]
  by_cases c5 : m < 21
  · rw [if_pos c5, if_pos c5]
    have e : ∀ f, 10 ≤ f → f < 20 → S' f (m - 5) 0 = S f (m - 5) 0 := fun f h0 h1 => h f (m - 5) 0 (by unfold ownc; rw [if_neg (by omega), if_neg (by omega), if_pos h1]; unfold cBk; omega)
    unfold fBk
    rw [e 10 (by omega) (by omega), e 11 (by omega) (by omega), e 12 (by omega) (by omega), e 13 (by omega) (by omega)]
  rw [if_neg c5, if_neg c5]
  by_cases c6 : m < 53
  · rw [if_pos c6, if_pos c6]
    by_cases c7 : (m - 21) % 2 = 0
    · rw [if_pos c7, if_pos c7]
      have e : ∀ f, 20 ≤ f → f < 24 → S' f ((m - 21) / 2) 0 = S f ((m - 21) / 2) 0 := fun f h0 h1 => h f ((m - 21) / 2) 0 (by unfold ownc; rw [if_neg (by omega), if_neg (by omega), if_neg (by omega), if_neg (by omega), if_pos (by omega)]; unfold cRt; omega)
      unfold fRt
      rw [e 20 (by omega) (by omega), e 21 (by omega) (by omega), e 22 (by omega) (by omega), e 23 (by omega) (by omega)]
    · rw [if_neg c7, if_neg c7]
      have e : (fun j => S' 24 ((m - 21) / 2) j) = (fun j => S 24 ((m - 21) / 2) j) := funext fun j => h 24 _ j (by unfold ownc; rw [if_neg (by omega), if_neg (by omega), if_neg (by omega), if_pos rfl]; unfold cRb; omega)
      rw [e]
  rw [if_neg c6, if_neg c6]
  by_cases c8 : (m - 53) % 4 = 0
  · rw [if_pos c8, if_pos c8]
    have e : ∀ f, 30 ≤ f → f ≠ 33 → f ≠ 34 → f ≠ 45 → S' f ((m - 53) / 4) 0 = S f ((m - 53) / 4) 0 := fun f h0 h1 h2 h3 => h f ((m - 53) / 4) 0 (by unfold ownc; rw [if_neg (by omega), if_neg (by omega), if_neg (by omega), if_neg (by omega), if_neg (by omega), if_neg h1, if_neg h2, if_neg h3]; unfold cTr; omega)
    unfold fTr
    rw [e 30 (by omega) (by omega) (by omega) (by omega), e 31 (by omega) (by omega) (by omega) (by omega), e 32 (by omega) (by omega) (by omega) (by omega), e 35 (by omega) (by omega) (by omega) (by omega), e 36 (by omega) (by omega) (by omega) (by omega), e 37 (by omega) (by omega) (by omega) (by omega), e 38 (by omega) (by omega) (by omega) (by omega), e 39 (by omega) (by omega) (by omega) (by omega), e 40 (by omega) (by omega) (by omega) (by omega), e 41 (by omega) (by omega) (by omega) (by omega), e 42 (by omega) (by omega) (by omega) (by omega), e 43 (by omega) (by omega) (by omega) (by omega), e 44 (by omega) (by omega) (by omega) (by omega)]
  rw [if_neg c8, if_neg c8]
  by_cases c9 : (m - 53) % 4 = 1
  · rw [if_pos c9, if_pos c9]
    have e : (fun j => S' 33 ((m - 53) / 4) j) = (fun j => S 33 ((m - 53) / 4) j) := funext fun j => h 33 _ j (by unfold ownc; rw [if_neg (by omega), if_neg (by omega), if_neg (by omega), if_neg (by omega), if_neg (by omega), if_pos rfl]; unfold cSt; omega)
    rw [e]
  rw [if_neg c9, if_neg c9]
  by_cases c10 : (m - 53) % 4 = 2
  · rw [if_pos c10, if_pos c10]
    have e : (fun j => S' 34 ((m - 53) / 4) j) = (fun j => S 34 ((m - 53) / 4) j) := funext fun j => h 34 _ j (by unfold ownc; rw [if_neg (by omega), if_neg (by omega), if_neg (by omega), if_neg (by omega), if_neg (by omega), if_neg (by omega), if_pos rfl]; unfold cTm; omega)
    rw [e]
  rw [if_neg c10, if_neg c10]
  have e : (fun j => S' 45 ((m - 53) / 4) j) = (fun j => S 45 ((m - 53) / 4) j) := funext fun j => h 45 _ j (by unfold ownc; rw [if_neg (by omega), if_neg (by omega), if_neg (by omega), if_neg (by omega), if_neg (by omega), if_neg (by omega), if_neg (by omega), if_pos rfl]; unfold cWf; omega)
  rw [e]
theorem ownc_lt {w f k : Nat} (hw : w < 2) (hk : if f < 10 then k = 0 else if f < 30 then k < 16 else k < 8) : 1 + 85 * w ≤ ownc w f k ∧ ownc w f k < 86 + 85 * w := by
  unfold ownc cPl cLn cBk cRb cRt cSt cTm cWf cTr
  (repeat' split) <;> split at hk <;> first | omega | (split at hk <;> omega)
/-- a write: one cell of the list changes, and the state with it -/
theorem bw_put {Z : Gm} {V : Nat → St} {w f k j : Nat} {S : St} {x : Int32} {e : va_E} (hV : V w = S) (hw : w < 2) (hk : if f < 10 then k = 0 else if f < 30 then k < 16 else k < 8) (he : cellOf Z (upL V w (up S f k j x)) (ownc w f k) = e) : (bw Z V).set (ownc w f k) (ad Z (ownc w f k), e) = bw Z (upL V w (up S f k j x)) := by
  obtain ⟨h1, h2⟩ := ownc_lt hw hk
  apply List.ext_getElem?
  intro i
  by_cases hi : i < 171
  · rw [List.getElem?_set, bw_at hi, bw_at hi]
    by_cases hn : ownc w f k = i
    · subst hn
      rw [if_pos rfl, if_pos (by simp [bw]; omega), he]
    · rw [if_neg hn]
      refine congrArg (fun e => some (ad Z i, e)) ?_
      unfold cellOf
      by_cases h0 : i = 0
      · rw [if_pos h0, if_pos h0]
      · rw [if_neg h0, if_neg h0]
        by_cases hww : (i - 1) / 85 = w
        · rw [hww, upL_same, hV]
          exact (line_cg (n := ownc w f k) (by omega) (by omega) (fun f' k' j' hne => by
            unfold up
            rw [if_neg]
            rintro ⟨rfl, rfl, rfl⟩
            exact hne rfl)).symm
        · rw [upL_ne hww]
  · rw [List.getElem?_eq_none (by simp [bw]; omega), List.getElem?_eq_none (by simp [bw]; omega)]
end
section
/-! Rows over this world: reads, writes, calls, ends. -/
def inW (Z : Gm) : Nat → Prop := fun q => ∃ i, i < 171 ∧ q = ad Z i
def AA (Z : Gm) : Prop := ∀ i j, i < 171 → j < 171 → ad Z i = ad Z j → i = j
theorem bw_D {Z : Gm} (hA : AA Z) (V : Nat → St) : va_D (inW Z) (bw Z V) := by
  have key : ∀ (i : Nat) (q : Nat × va_E), (bw Z V)[i]? = some q → i < 171 ∧ q.1 = ad Z i := by
    intro i q h
    have hi : i < 171 := by
      have := (List.getElem?_eq_some_iff.mp h).1
      simpa [bw] using this
    rw [bw_at hi] at h
    cases h
    exact ⟨hi, rfl⟩
  refine ⟨fun i j p q hp hq e => ?_, fun i q h => ⟨i, key i q h⟩⟩
  obtain ⟨i1, e1⟩ := key i p hp
  obtain ⟨j1, e2⟩ := key j q hq
  exact hA i j i1 j1 (by rw [← e1, ← e2, e])
/-- what holds of the machine in a method of the class own -/
def EE (Z : Gm) (p : Program) (s : State) (m : MethodId) (args : Array Value) (c : Code) (cc : ByteArray) (own : String) : Prop := p.tables.exec = Jvm.exec ∧ c.code = cc ∧ s.vm.findClass own = some m.cls ∧ (∀ w ∈ gG, w.before args s = true) ∧ va_K (gD Z) vwCl (gT Z) s
theorem tx0 : ∀ i, i < 4 → (TX0 i).1 = RX0 := by decide +kernel
theorem tx1 : ∀ i, i < 10 → (TX1 i).1 = RX1 := by decide +kernel
theorem tx2 : ∀ i, i < 5 → (TX2 i).1 = RX2 := by decide +kernel
theorem tx3 : ∀ i, i < 16 → (TX3 i).1 = RX3 := by decide +kernel
section ROWS
variable {p : Program} {l : Launch} {e : Env} {R : Room} {s : State} {m : MethodId} {args : Array Value} {below : List Frame} {meth : Method} {c : Code} {H : Heap} {locs : List Loc} {cells slots : Nat} {Q : State → Prop} {cc : ByteArray} {pc : Nat} {ls : Array Slot} {rest : List Value} {Z : Gm} {V V' : Nat → St} {w k : Nat} {S : St} {own : String} {index : Nat} {H0 : Heap}
-- ---- fields that are read
theorem g_ln (E : EE Z p s m args c cc own) (hP : va_P (gD Z) vwCl (bw Z V) H) (hV : V w = S) (hw : w < 2) (i : Nat) (hi : i < 10) (hl : Cond.fieldLink own index RX1 (TX1 i).2.1 (TX1 i).2.2.1 ∈ gG) {v : Value} (hv : (fLn Z w S)[i]? = some v) (hdg : decode cc pc = .ok (.getfield index, 3))
    (kk : W p l e R s m args below meth c H locs cells slots Q (F0 m (pc + 3) ls (v :: rest))) : W p l e R s m args below meth c H locs cells slots Q (F0 m pc ls (.ref (ad Z (cLn w)) :: rest)) :=
  va_get E.1 E.2.1 (Ts := gG) E.2.2.2.1 gC1 E.2.2.1 E.2.2.2.2 hP (cLn w) (at_ln hV hw) rfl i hi (E.2.2.2.1 _ hl) (fun x h => by rw [tx1 i hi] at h; exact h) hv hdg kk
theorem g_bk (E : EE Z p s m args c cc own) (hP : va_P (gD Z) vwCl (bw Z V) H) (hV : V w = S) (hw : w < 2) (hk : k < 16) (i : Nat) (hi : i < 4) (hl : Cond.fieldLink own index RX0 (TX0 i).2.1 (TX0 i).2.2.1 ∈ gG) {v : Value} (hv : (fBk S k)[i]? = some v) (hdg : decode cc pc = .ok (.getfield index, 3))
    (kk : W p l e R s m args below meth c H locs cells slots Q (F0 m (pc + 3) ls (v :: rest))) : W p l e R s m args below meth c H locs cells slots Q (F0 m pc ls (.ref (ad Z (cBk w k)) :: rest)) :=
  va_get E.1 E.2.1 (Ts := gG) E.2.2.2.1 gC0 E.2.2.1 E.2.2.2.2 hP (cBk w k) (at_bk hV hw hk) rfl i hi (E.2.2.2.1 _ hl) (fun x h => by rw [tx0 i hi] at h; exact h) hv hdg kk
theorem g_rt (E : EE Z p s m args c cc own) (hP : va_P (gD Z) vwCl (bw Z V) H) (hV : V w = S) (hw : w < 2) (hk : k < 16) (i : Nat) (hi : i < 5) (hl : Cond.fieldLink own index RX2 (TX2 i).2.1 (TX2 i).2.2.1 ∈ gG) {v : Value} (hv : (fRt Z w S k)[i]? = some v) (hdg : decode cc pc = .ok (.getfield index, 3))
    (kk : W p l e R s m args below meth c H locs cells slots Q (F0 m (pc + 3) ls (v :: rest))) : W p l e R s m args below meth c H locs cells slots Q (F0 m pc ls (.ref (ad Z (cRt w k)) :: rest)) :=
  va_get E.1 E.2.1 (Ts := gG) E.2.2.2.1 gC2 E.2.2.1 E.2.2.2.2 hP (cRt w k) (at_rt hV hw hk) rfl i hi (E.2.2.2.1 _ hl) (fun x h => by rw [tx2 i hi] at h; exact h) hv hdg kk
theorem g_tr (E : EE Z p s m args c cc own) (hP : va_P (gD Z) vwCl (bw Z V) H) (hV : V w = S) (hw : w < 2) (hk : k < 8) (i : Nat) (hi : i < 16) (hl : Cond.fieldLink own index RX3 (TX3 i).2.1 (TX3 i).2.2.1 ∈ gG) {v : Value} (hv : (fTr Z w S k)[i]? = some v) (hdg : decode cc pc = .ok (.getfield index, 3))
    (kk : W p l e R s m args below meth c H locs cells slots Q (F0 m (pc + 3) ls (v :: rest))) : W p l e R s m args below meth c H locs cells slots Q (F0 m pc ls (.ref (ad Z (cTr w k)) :: rest)) :=
  va_get E.1 E.2.1 (Ts := gG) E.2.2.2.1 gC3 E.2.2.1 E.2.2.2.2 hP (cTr w k) (at_tr hV hw hk) rfl i hi (E.2.2.2.1 _ hl) (fun x h => by rw [tx3 i hi] at h; exact h) hv hdg kk
theorem g_bay (E : EE Z p s m args c cc own) (hP : va_P (gD Z) vwCl (bw Z V) H) (i : Nat) (hi : i < 2) (hl : Cond.fieldLink own index RX4 (TX4 i).2.1 (TX4 i).2.2.1 ∈ gG) (hdg : decode cc pc = .ok (.getfield index, 3))
    (kk : W p l e R s m args below meth c H locs cells slots Q (F0 m (pc + 3) ls (.ref (ad Z (cLn i)) :: rest))) : W p l e R s m args below meth c H locs cells slots Q (F0 m pc ls (.ref (ad Z 0) :: rest)) := by
  refine va_get E.1 E.2.1 (Ts := gG) E.2.2.2.1 gC4 E.2.2.1 E.2.2.2.2 hP 0 at_bay rfl i hi (E.2.2.2.1 _ hl) (fun x h => ?_) (v := .ref (ad Z (cLn i))) ?_ hdg kk
  · rcases (show i = 0 ∨ i = 1 by omega) with rfl | rfl <;> exact h
  · rcases (show i = 0 ∨ i = 1 by omega) with rfl | rfl <;> rfl
-- ---- fields that are written
theorem p_ln (E : EE Z p s m args c cc own) (hP : va_P (gD Z) vwCl (bw Z V) H) (hA : AA Z) (hS : va_S (inW Z) H0 H locs) (hV : V w = S) (hw : w < 2) (i : Nat) (hi : i ∈ [2, 4, 6, 7, 8, 9]) (hl : Cond.fieldLink own index RX1 (TX1 i).2.1 (TX1 i).2.2.1 ∈ gG) {x : Int32} (hV' : upL V w (up S i 0 0 x) = V') (hdg : decode cc pc = .ok (.putfield index, 3))
    (kk : ∀ (H1 : Heap) (locs1 : List Loc), va_P (gD Z) vwCl (bw Z V') H1 → va_S (inW Z) H0 H1 locs1 → W p l e R s m args below meth c H1 locs1 cells slots Q (F0 m (pc + 3) ls rest)) : W p l e R s m args below meth c H locs cells slots Q (F0 m pc ls (.int x :: .ref (ad Z (cLn w)) :: rest)) := by
  subst hV'
  have h10 : i < 10 := by simp only [List.mem_cons, List.not_mem_nil, or_false] at hi; omega
  have hd : parseFieldDescriptor (TX1 i).2.2.1 = some .int := by simp only [List.mem_cons, List.not_mem_nil, or_false] at hi; rcases hi with rfl | rfl | rfl | rfl | rfl | rfl <;> decide +kernel
  have hf : (TX1 i).2.2.2 = false := by simp only [List.mem_cons, List.not_mem_nil, or_false] at hi; rcases hi with rfl | rfl | rfl | rfl | rfl | rfl <;> rfl
  have hn : ownc w i 0 = cLn w := by simp only [List.mem_cons, List.not_mem_nil, or_false] at hi; rcases hi with rfl | rfl | rfl | rfl | rfl | rfl <;> rfl
  refine va_put E.1 E.2.1 (Ts := gG) E.2.2.2.1 gC1 tyX1 tyX1_ok nmX1 E.2.2.1 E.2.2.2.2 hP (bw_D hA V) hS (cLn w) (at_ln hV hw) rfl i h10 (E.2.2.2.1 _ hl) (fun x h => by rw [tx1 i h10] at h; exact h) hf hd (v := .int x) rfl rfl (by simp [fLn]; omega) hdg (fun H1 locs1 h1 _ h3 => kk H1 locs1 ?_ h3)
  have hb := bw_put (Z := Z) (f := i) (k := 0) (j := 0) (x := x) (e := .inr (1, (fLn Z w S).set i (.int x))) hV hw (by rw [if_pos h10]) (by
    rw [hn, cell_at (w := w) (m := 0) (by unfold cLn; omega) (by omega) (upL_same V w _)]
    simp only [lineCell, if_true]
    simp only [List.mem_cons, List.not_mem_nil, or_false] at hi
    rcases hi with rfl | rfl | rfl | rfl | rfl | rfl <;> simp [fLn, up])
  rw [hn] at hb
  rw [← hb]
  exact h1
theorem p_bk (E : EE Z p s m args c cc own) (hP : va_P (gD Z) vwCl (bw Z V) H) (hA : AA Z) (hS : va_S (inW Z) H0 H locs) (hV : V w = S) (hw : w < 2) (hk : k < 16) (i : Nat) (hi : i < 4) (hl : Cond.fieldLink own index RX0 (TX0 i).2.1 (TX0 i).2.2.1 ∈ gG) {x : Int32} (hV' : upL V w (up S (10 + i) k 0 x) = V') (hdg : decode cc pc = .ok (.putfield index, 3))
    (kk : ∀ (H1 : Heap) (locs1 : List Loc), va_P (gD Z) vwCl (bw Z V') H1 → va_S (inW Z) H0 H1 locs1 → W p l e R s m args below meth c H1 locs1 cells slots Q (F0 m (pc + 3) ls rest)) : W p l e R s m args below meth c H locs cells slots Q (F0 m pc ls (.int x :: .ref (ad Z (cBk w k)) :: rest)) := by
  subst hV'
  have hd : parseFieldDescriptor (TX0 i).2.2.1 = some .int := by rcases (show i = 0 ∨ i = 1 ∨ i = 2 ∨ i = 3 by omega) with rfl | rfl | rfl | rfl <;> decide +kernel
  have hf : (TX0 i).2.2.2 = false := by rcases (show i = 0 ∨ i = 1 ∨ i = 2 ∨ i = 3 by omega) with rfl | rfl | rfl | rfl <;> rfl
  have hn : ownc w (10 + i) k = cBk w k := by rcases (show i = 0 ∨ i = 1 ∨ i = 2 ∨ i = 3 by omega) with rfl | rfl | rfl | rfl <;> rfl
  refine va_put E.1 E.2.1 (Ts := gG) E.2.2.2.1 gC0 tyX0 tyX0_ok nmX0 E.2.2.1 E.2.2.2.2 hP (bw_D hA V) hS (cBk w k) (at_bk hV hw hk) rfl i hi (E.2.2.2.1 _ hl) (fun x h => by rw [tx0 i hi] at h; exact h) hf hd (v := .int x) rfl rfl (by simp [fBk]; omega) hdg (fun H1 locs1 h1 _ h3 => kk H1 locs1 ?_ h3)
  have hb := bw_put (Z := Z) (f := 10 + i) (k := k) (j := 0) (x := x) (e := .inr (0, (fBk S k).set i (.int x))) hV hw (by rw [if_neg (by omega), if_pos (by omega)]; exact hk) (by
    have h0 := at_bk (Z := Z) (V := upL V w (up S (10 + i) k 0 x)) (k := k) (upL_same V w _) hw hk
    rw [bw_at (by unfold cBk; omega)] at h0
    rw [hn, (Prod.mk.inj (Option.some.inj h0)).2]
    rcases (show i = 0 ∨ i = 1 ∨ i = 2 ∨ i = 3 by omega) with rfl | rfl | rfl | rfl <;> simp [fBk, up])
  rw [hn] at hb
  rw [← hb]
  exact h1
theorem p_rt (E : EE Z p s m args c cc own) (hP : va_P (gD Z) vwCl (bw Z V) H) (hA : AA Z) (hS : va_S (inW Z) H0 H locs) (hV : V w = S) (hw : w < 2) (hk : k < 16) (i : Nat) (hi : i < 4) (hl : Cond.fieldLink own index RX2 (TX2 i).2.1 (TX2 i).2.2.1 ∈ gG) {x : Int32} (hx : i = 2 → x = 0 ∨ x = 1) (hV' : upL V w (up S (20 + i) k 0 x) = V') (hdg : decode cc pc = .ok (.putfield index, 3))
    (kk : ∀ (H1 : Heap) (locs1 : List Loc), va_P (gD Z) vwCl (bw Z V') H1 → va_S (inW Z) H0 H1 locs1 → W p l e R s m args below meth c H1 locs1 cells slots Q (F0 m (pc + 3) ls rest)) : W p l e R s m args below meth c H locs cells slots Q (F0 m pc ls (.int x :: .ref (ad Z (cRt w k)) :: rest)) := by
  subst hV'
  have hd : ∃ ty, parseFieldDescriptor (TX2 i).2.2.1 = some ty ∧ narrow ty (.int x) = .int x ∧ fits ty (.int x) = true := by
    rcases (show i = 0 ∨ i = 1 ∨ i = 2 ∨ i = 3 by omega) with rfl | rfl | rfl | rfl
    · exact ⟨.int, by decide +kernel, rfl, rfl⟩
    · exact ⟨.int, by decide +kernel, rfl, rfl⟩
    · rcases hx rfl with rfl | rfl <;> exact ⟨.boolean, by decide +kernel, rfl, rfl⟩
    · exact ⟨.int, by decide +kernel, rfl, rfl⟩
  obtain ⟨ty, hd, hnr, hft⟩ := hd
  have hf : (TX2 i).2.2.2 = false := by rcases (show i = 0 ∨ i = 1 ∨ i = 2 ∨ i = 3 by omega) with rfl | rfl | rfl | rfl <;> rfl
  have hn : ownc w (20 + i) k = cRt w k := by rcases (show i = 0 ∨ i = 1 ∨ i = 2 ∨ i = 3 by omega) with rfl | rfl | rfl | rfl <;> rfl
  refine va_put E.1 E.2.1 (Ts := gG) E.2.2.2.1 gC2 tyX2 tyX2_ok nmX2 E.2.2.1 E.2.2.2.2 hP (bw_D hA V) hS (cRt w k) (at_rt hV hw hk) rfl i (by omega) (E.2.2.2.1 _ hl) (fun x h => by rw [tx2 i (by omega)] at h; exact h) hf hd (v := .int x) hnr hft (by simp [fRt]; omega) hdg (fun H1 locs1 h1 _ h3 => kk H1 locs1 ?_ h3)
  have hb := bw_put (Z := Z) (f := 20 + i) (k := k) (j := 0) (x := x) (e := .inr (2, (fRt Z w S k).set i (.int x))) hV hw (by rw [if_neg (by omega), if_pos (by omega)]; exact hk) (by
    have h0 := at_rt (Z := Z) (V := upL V w (up S (20 + i) k 0 x)) (k := k) (upL_same V w _) hw hk
    rw [bw_at (by unfold cRt; omega)] at h0
    rw [hn, (Prod.mk.inj (Option.some.inj h0)).2]
    rcases (show i = 0 ∨ i = 1 ∨ i = 2 ∨ i = 3 by omega) with rfl | rfl | rfl | rfl <;> simp [fRt, up])
  rw [hn] at hb
  rw [← hb]
  exact h1
theorem p_tr (E : EE Z p s m args c cc own) (hP : va_P (gD Z) vwCl (bw Z V) H) (hA : AA Z) (hS : va_S (inW Z) H0 H locs) (hV : V w = S) (hw : w < 2) (hk : k < 8) (i : Nat) (hi : i ∈ [0, 1, 2, 5, 6, 7, 8, 9, 10, 11, 12, 13, 14]) (hl : Cond.fieldLink own index RX3 (TX3 i).2.1 (TX3 i).2.2.1 ∈ gG) {x : Int32} (hV' : upL V w (up S (30 + i) k 0 x) = V') (hdg : decode cc pc = .ok (.putfield index, 3))
    (kk : ∀ (H1 : Heap) (locs1 : List Loc), va_P (gD Z) vwCl (bw Z V') H1 → va_S (inW Z) H0 H1 locs1 → W p l e R s m args below meth c H1 locs1 cells slots Q (F0 m (pc + 3) ls rest)) : W p l e R s m args below meth c H locs cells slots Q (F0 m pc ls (.int x :: .ref (ad Z (cTr w k)) :: rest)) := by
  subst hV'
  simp only [List.mem_cons, List.not_mem_nil, or_false] at hi
  have h16 : i < 16 := by omega
  have hd : parseFieldDescriptor (TX3 i).2.2.1 = some .int := by rcases hi with rfl | rfl | rfl | rfl | rfl | rfl | rfl | rfl | rfl | rfl | rfl | rfl | rfl <;> decide +kernel
  have hf : (TX3 i).2.2.2 = false := by rcases hi with rfl | rfl | rfl | rfl | rfl | rfl | rfl | rfl | rfl | rfl | rfl | rfl | rfl <;> rfl
  have hn : ownc w (30 + i) k = cTr w k := by rcases hi with rfl | rfl | rfl | rfl | rfl | rfl | rfl | rfl | rfl | rfl | rfl | rfl | rfl <;> rfl
  refine va_put E.1 E.2.1 (Ts := gG) E.2.2.2.1 gC3 tyX3 tyX3_ok nmX3 E.2.2.1 E.2.2.2.2 hP (bw_D hA V) hS (cTr w k) (at_tr hV hw hk) rfl i h16 (E.2.2.2.1 _ hl) (fun x h => by rw [tx3 i h16] at h; exact h) hf hd (v := .int x) rfl rfl (by simp [fTr]; omega) hdg (fun H1 locs1 h1 _ h3 => kk H1 locs1 ?_ h3)
  have hb := bw_put (Z := Z) (f := 30 + i) (k := k) (j := 0) (x := x) (e := .inr (3, (fTr Z w S k).set i (.int x))) hV hw (by rw [if_neg (by omega), if_neg (by omega)]; exact hk) (by
    have h0 := at_tr (Z := Z) (V := upL V w (up S (30 + i) k 0 x)) (k := k) (upL_same V w _) hw hk
    rw [bw_at (by unfold cTr; omega)] at h0
    rw [hn, (Prod.mk.inj (Option.some.inj h0)).2]
    rcases hi with rfl | rfl | rfl | rfl | rfl | rfl | rfl | rfl | rfl | rfl | rfl | rfl | rfl <;> simp [fTr, up])
  rw [hn] at hb
  rw [← hb]
  exact h1
-- ---- arrays
theorem a_bk (E : EE Z p s m args c cc own) (hP : va_P (gD Z) vwCl (bw Z V) H) (hw : w < 2) {x : Int32} (hx : x.toNatClampNeg = k) (hin : vp_in x 16) (hdg : decode cc pc = .ok (.aaload, 1))
    (kk : W p l e R s m args below meth c H locs cells slots Q (F0 m (pc + 1) ls (.ref (ad Z (cBk w k)) :: rest))) : W p l e R s m args below meth c H locs cells slots Q (F0 m pc ls (.int x :: .ref (ad Z (cBs w)) :: rest)) := by
  subst hx
  exact va_aldq E.1 E.2.1 E.2.2.2.2 hP (cBs w) 1 (at_bs hw) rfl hin hdg kk
theorem a_rt (E : EE Z p s m args c cc own) (hP : va_P (gD Z) vwCl (bw Z V) H) (hw : w < 2) {x : Int32} (hx : x.toNatClampNeg = k) (hin : vp_in x 16) (hdg : decode cc pc = .ok (.aaload, 1))
    (kk : W p l e R s m args below meth c H locs cells slots Q (F0 m (pc + 1) ls (.ref (ad Z (cRt w k)) :: rest))) : W p l e R s m args below meth c H locs cells slots Q (F0 m pc ls (.int x :: .ref (ad Z (cRs w)) :: rest)) := by
  subst hx
  exact va_aldq E.1 E.2.1 E.2.2.2.2 hP (cRs w) 2 (at_rs hw) rfl hin hdg kk
theorem a_tr (E : EE Z p s m args c cc own) (hP : va_P (gD Z) vwCl (bw Z V) H) (hw : w < 2) {x : Int32} (hx : x.toNatClampNeg = k) (hin : vp_in x 8) (hdg : decode cc pc = .ok (.aaload, 1))
    (kk : W p l e R s m args below meth c H locs cells slots Q (F0 m (pc + 1) ls (.ref (ad Z (cTr w k)) :: rest))) : W p l e R s m args below meth c H locs cells slots Q (F0 m pc ls (.int x :: .ref (ad Z (cTs w)) :: rest)) := by
  subst hx
  exact va_aldq E.1 E.2.1 E.2.2.2.2 hP (cTs w) 3 (at_ts hw) rfl hin hdg kk
theorem i_pl (E : EE Z p s m args c cc own) (hP : va_P (gD Z) vwCl (bw Z V) H) (hV : V w = S) (hw : w < 2) {x : Int32} {j : Nat} (hx : x.toNatClampNeg = j) (hin : vp_in x 6) (hdg : decode cc pc = .ok (.iaload, 1))
    (kk : W p l e R s m args below meth c H locs cells slots Q (F0 m (pc + 1) ls (.int (S 0 0 j) :: rest))) : W p l e R s m args below meth c H locs cells slots Q (F0 m pc ls (.int x :: .ref (ad Z (cPl w)) :: rest)) := by
  subst hx
  exact va_iald E.1 E.2.1 E.2.2.2.2 hP (cPl w) 0 (at_pl hV hw) rfl hin hdg kk
theorem i_rb (E : EE Z p s m args c cc own) (hP : va_P (gD Z) vwCl (bw Z V) H) (hV : V w = S) (hw : w < 2) (hk : k < 16) {x : Int32} {j : Nat} (hx : x.toNatClampNeg = j) (hin : vp_in x 5) (hdg : decode cc pc = .ok (.iaload, 1))
    (kk : W p l e R s m args below meth c H locs cells slots Q (F0 m (pc + 1) ls (.int (S 24 k j) :: rest))) : W p l e R s m args below meth c H locs cells slots Q (F0 m pc ls (.int x :: .ref (ad Z (cRb w k)) :: rest)) := by
  subst hx
  exact va_iald E.1 E.2.1 E.2.2.2.2 hP (cRb w k) 0 (at_rb hV hw hk) rfl hin hdg kk
theorem i_st (E : EE Z p s m args c cc own) (hP : va_P (gD Z) vwCl (bw Z V) H) (hV : V w = S) (hw : w < 2) (hk : k < 8) {x : Int32} {j : Nat} (hx : x.toNatClampNeg = j) (hin : vp_in x 8) (hdg : decode cc pc = .ok (.iaload, 1))
    (kk : W p l e R s m args below meth c H locs cells slots Q (F0 m (pc + 1) ls (.int (S 33 k j) :: rest))) : W p l e R s m args below meth c H locs cells slots Q (F0 m pc ls (.int x :: .ref (ad Z (cSt w k)) :: rest)) := by
  subst hx
  exact va_iald E.1 E.2.1 E.2.2.2.2 hP (cSt w k) 0 (at_st hV hw hk) rfl hin hdg kk
theorem i_tm (E : EE Z p s m args c cc own) (hP : va_P (gD Z) vwCl (bw Z V) H) (hV : V w = S) (hw : w < 2) (hk : k < 8) {x : Int32} {j : Nat} (hx : x.toNatClampNeg = j) (hin : vp_in x 8) (hdg : decode cc pc = .ok (.iaload, 1))
    (kk : W p l e R s m args below meth c H locs cells slots Q (F0 m (pc + 1) ls (.int (S 34 k j) :: rest))) : W p l e R s m args below meth c H locs cells slots Q (F0 m pc ls (.int x :: .ref (ad Z (cTm w k)) :: rest)) := by
  subst hx
  exact va_iald E.1 E.2.1 E.2.2.2.2 hP (cTm w k) 0 (at_tm hV hw hk) rfl hin hdg kk
theorem i_wf (E : EE Z p s m args c cc own) (hP : va_P (gD Z) vwCl (bw Z V) H) (hV : V w = S) (hw : w < 2) (hk : k < 8) {x : Int32} {j : Nat} (hx : x.toNatClampNeg = j) (hin : vp_in x 8) (hdg : decode cc pc = .ok (.iaload, 1))
    (kk : W p l e R s m args below meth c H locs cells slots Q (F0 m (pc + 1) ls (.int (S 45 k j) :: rest))) : W p l e R s m args below meth c H locs cells slots Q (F0 m pc ls (.int x :: .ref (ad Z (cWf w k)) :: rest)) := by
  subst hx
  exact va_iald E.1 E.2.1 E.2.2.2.2 hP (cWf w k) 0 (at_wf hV hw hk) rfl hin hdg kk
/-- a write into a row of numbers: by the field's code -/
theorem st_arr {f n : Nat} (hA : AA Z) (hV : V w = S) (hw : w < 2) (hk : if f < 10 then k = 0 else if f < 30 then k < 16 else k < 8) (hat : ∀ (V1 : Nat → St) (S1 : St), V1 w = S1 → (bw Z V1)[ownc w f k]? = some (ad Z (ownc w f k), .inl (Z.2.2.1, n, .inl (fun j => S1 f k j)))) (E : EE Z p s m args c cc own) (hP : va_P (gD Z) vwCl (bw Z V) H) (hS : va_S (inW Z) H0 H locs) {x y : Int32} {j : Nat} (hx : x.toNatClampNeg = j) (hin : vp_in x n) (hV' : upL V w (up S f k j y) = V') (hdg : decode cc pc = .ok (.iastore, 1))
    (kk : ∀ (H1 : Heap) (locs1 : List Loc), va_P (gD Z) vwCl (bw Z V') H1 → va_S (inW Z) H0 H1 locs1 → W p l e R s m args below meth c H1 locs1 cells slots Q (F0 m (pc + 1) ls rest)) : W p l e R s m args below meth c H locs cells slots Q (F0 m pc ls (.int y :: .int x :: .ref (ad Z (ownc w f k)) :: rest)) := by
  subst hV'
  subst hx
  refine va_iast E.1 E.2.1 E.2.2.2.2 hP (bw_D hA V) hS (ownc w f k) 0 (hat V S hV) rfl hin hdg (fun H1 locs1 h1 _ h3 => kk H1 locs1 ?_ h3)
  have hb := bw_put (Z := Z) (f := f) (k := k) (j := x.toNatClampNeg) (x := y) (e := .inl (Z.2.2.1, n, .inl (upd (fun j => S f k j) x.toNatClampNeg y))) hV hw hk (by
    have h0 := hat (upL V w (up S f k x.toNatClampNeg y)) _ (upL_same V w _)
    rw [bw_at (by have := ownc_lt hw hk; omega)] at h0
    rw [(Prod.mk.inj (Option.some.inj h0)).2]
    have e1 : (fun j => up S f k x.toNatClampNeg y f k j) = upd (fun j => S f k j) x.toNatClampNeg y := by
      funext j
      by_cases hj : j = x.toNatClampNeg
      · simp [up, upd, hj]
      · simp [up, upd, hj]
    rw [e1])
  rw [← hb]
  exact h1
theorem s_pl (E : EE Z p s m args c cc own) (hP : va_P (gD Z) vwCl (bw Z V) H) (hA : AA Z) (hS : va_S (inW Z) H0 H locs) (hV : V w = S) (hw : w < 2) {x y : Int32} {j : Nat} (hx : x.toNatClampNeg = j) (hin : vp_in x 6) (hV' : upL V w (up S 0 0 j y) = V') (hdg : decode cc pc = .ok (.iastore, 1))
    (kk : ∀ (H1 : Heap) (locs1 : List Loc), va_P (gD Z) vwCl (bw Z V') H1 → va_S (inW Z) H0 H1 locs1 → W p l e R s m args below meth c H1 locs1 cells slots Q (F0 m (pc + 1) ls rest)) : W p l e R s m args below meth c H locs cells slots Q (F0 m pc ls (.int y :: .int x :: .ref (ad Z (cPl w)) :: rest)) :=
  st_arr (f := 0) (k := 0) (n := 6) hA hV hw (by rw [if_pos (by omega)]) (fun V1 S1 h => at_pl h hw) E hP hS hx hin hV' hdg kk
theorem s_rb (E : EE Z p s m args c cc own) (hP : va_P (gD Z) vwCl (bw Z V) H) (hA : AA Z) (hS : va_S (inW Z) H0 H locs) (hV : V w = S) (hw : w < 2) (hk : k < 16) {x y : Int32} {j : Nat} (hx : x.toNatClampNeg = j) (hin : vp_in x 5) (hV' : upL V w (up S 24 k j y) = V') (hdg : decode cc pc = .ok (.iastore, 1))
    (kk : ∀ (H1 : Heap) (locs1 : List Loc), va_P (gD Z) vwCl (bw Z V') H1 → va_S (inW Z) H0 H1 locs1 → W p l e R s m args below meth c H1 locs1 cells slots Q (F0 m (pc + 1) ls rest)) : W p l e R s m args below meth c H locs cells slots Q (F0 m pc ls (.int y :: .int x :: .ref (ad Z (cRb w k)) :: rest)) :=
  st_arr (f := 24) (k := k) (n := 5) hA hV hw (by rw [if_neg (by omega), if_pos (by omega)]; exact hk) (fun V1 S1 h => at_rb h hw hk) E hP hS hx hin hV' hdg kk
theorem s_st (E : EE Z p s m args c cc own) (hP : va_P (gD Z) vwCl (bw Z V) H) (hA : AA Z) (hS : va_S (inW Z) H0 H locs) (hV : V w = S) (hw : w < 2) (hk : k < 8) {x y : Int32} {j : Nat} (hx : x.toNatClampNeg = j) (hin : vp_in x 8) (hV' : upL V w (up S 33 k j y) = V') (hdg : decode cc pc = .ok (.iastore, 1))
    (kk : ∀ (H1 : Heap) (locs1 : List Loc), va_P (gD Z) vwCl (bw Z V') H1 → va_S (inW Z) H0 H1 locs1 → W p l e R s m args below meth c H1 locs1 cells slots Q (F0 m (pc + 1) ls rest)) : W p l e R s m args below meth c H locs cells slots Q (F0 m pc ls (.int y :: .int x :: .ref (ad Z (cSt w k)) :: rest)) :=
  st_arr (f := 33) (k := k) (n := 8) hA hV hw (by rw [if_neg (by omega), if_neg (by omega)]; exact hk) (fun V1 S1 h => at_st h hw hk) E hP hS hx hin hV' hdg kk
theorem s_tm (E : EE Z p s m args c cc own) (hP : va_P (gD Z) vwCl (bw Z V) H) (hA : AA Z) (hS : va_S (inW Z) H0 H locs) (hV : V w = S) (hw : w < 2) (hk : k < 8) {x y : Int32} {j : Nat} (hx : x.toNatClampNeg = j) (hin : vp_in x 8) (hV' : upL V w (up S 34 k j y) = V') (hdg : decode cc pc = .ok (.iastore, 1))
    (kk : ∀ (H1 : Heap) (locs1 : List Loc), va_P (gD Z) vwCl (bw Z V') H1 → va_S (inW Z) H0 H1 locs1 → W p l e R s m args below meth c H1 locs1 cells slots Q (F0 m (pc + 1) ls rest)) : W p l e R s m args below meth c H locs cells slots Q (F0 m pc ls (.int y :: .int x :: .ref (ad Z (cTm w k)) :: rest)) :=
  st_arr (f := 34) (k := k) (n := 8) hA hV hw (by rw [if_neg (by omega), if_neg (by omega)]; exact hk) (fun V1 S1 h => at_tm h hw hk) E hP hS hx hin hV' hdg kk
theorem s_wf (E : EE Z p s m args c cc own) (hP : va_P (gD Z) vwCl (bw Z V) H) (hA : AA Z) (hS : va_S (inW Z) H0 H locs) (hV : V w = S) (hw : w < 2) (hk : k < 8) {x y : Int32} {j : Nat} (hx : x.toNatClampNeg = j) (hin : vp_in x 8) (hV' : upL V w (up S 45 k j y) = V') (hdg : decode cc pc = .ok (.iastore, 1))
    (kk : ∀ (H1 : Heap) (locs1 : List Loc), va_P (gD Z) vwCl (bw Z V') H1 → va_S (inW Z) H0 H1 locs1 → W p l e R s m args below meth c H1 locs1 cells slots Q (F0 m (pc + 1) ls rest)) : W p l e R s m args below meth c H locs cells slots Q (F0 m pc ls (.int y :: .int x :: .ref (ad Z (cWf w k)) :: rest)) :=
  st_arr (f := 45) (k := k) (n := 8) hA hV hw (by rw [if_neg (by omega), if_neg (by omega)]; exact hk) (fun V1 S1 h => at_wf h hw hk) E hP hS hx hin hV' hdg kk
theorem l_rb (E : EE Z p s m args c cc own) (hP : va_P (gD Z) vwCl (bw Z V) H) (hw : w < 2) (hk : k < 16) (hdg : decode cc pc = .ok (.arraylength, 1))
    (kk : W p l e R s m args below meth c H locs cells slots Q (F0 m (pc + 1) ls (.int 5 :: rest))) : W p l e R s m args below meth c H locs cells slots Q (F0 m pc ls (.ref (ad Z (cRb w k)) :: rest)) :=
  va_alen E.1 E.2.1 E.2.2.2.2 hP (cRb w k) 0 (at_rb rfl hw hk) rfl rfl hdg kk
theorem l_st (E : EE Z p s m args c cc own) (hP : va_P (gD Z) vwCl (bw Z V) H) (hw : w < 2) (hk : k < 8) (hdg : decode cc pc = .ok (.arraylength, 1))
    (kk : W p l e R s m args below meth c H locs cells slots Q (F0 m (pc + 1) ls (.int 8 :: rest))) : W p l e R s m args below meth c H locs cells slots Q (F0 m pc ls (.ref (ad Z (cSt w k)) :: rest)) :=
  va_alen E.1 E.2.1 E.2.2.2.2 hP (cSt w k) 0 (at_st rfl hw hk) rfl rfl hdg kk
theorem l_tm (E : EE Z p s m args c cc own) (hP : va_P (gD Z) vwCl (bw Z V) H) (hw : w < 2) (hk : k < 8) (hdg : decode cc pc = .ok (.arraylength, 1))
    (kk : W p l e R s m args below meth c H locs cells slots Q (F0 m (pc + 1) ls (.int 8 :: rest))) : W p l e R s m args below meth c H locs cells slots Q (F0 m pc ls (.ref (ad Z (cTm w k)) :: rest)) :=
  va_alen E.1 E.2.1 E.2.2.2.2 hP (cTm w k) 0 (at_tm rfl hw hk) rfl rfl hdg kk
theorem l_wf (E : EE Z p s m args c cc own) (hP : va_P (gD Z) vwCl (bw Z V) H) (hw : w < 2) (hk : k < 8) (hdg : decode cc pc = .ok (.arraylength, 1))
    (kk : W p l e R s m args below meth c H locs cells slots Q (F0 m (pc + 1) ls (.int 8 :: rest))) : W p l e R s m args below meth c H locs cells slots Q (F0 m pc ls (.ref (ad Z (cWf w k)) :: rest)) :=
  va_alen E.1 E.2.1 E.2.2.2.2 hP (cWf w k) 0 (at_wf rfl hw hk) rfl rfl hdg kk
end ROWS
end
section
/-! Contracts over this world, and calls by them. -/
/-- a method's start: its arguments, the world -/
def PW (Z : Gm) (V : Nat → St) (av : List Value) : Array Value → State → Prop := fun a U => a = av.toArray ∧ va_P (gD Z) vwCl (bw Z V) U.heap ∧ va_K (gD Z) vwCl (gT Z) U
/-- the end of one that only reads -/
def QP (v : Option Value) : Array Value → State → Outcome → State → Prop := fun _ st o t => o = .returned v ∧ t.heap = st.heap
/-- the end of one that writes -/
def QX (Z : Gm) (v : Option Value) (V' : Nat → St) : Array Value → State → Outcome → State → Prop := fun _ st o t => o = .returned v ∧ va_P (gD Z) vwCl (bw Z V') t.heap ∧ va_F (inW Z) st t
theorem PW_blind (Z : Gm) (V : Nat → St) (av : List Value) : FrameBlind (PW Z V av) := fun a U g mk h => ⟨h.1, h.2.1, va_K.moved (u := U) (U := U.calling g mk a) (Vm.Alike.refl U.vm) h.2.2⟩
theorem PW_at {Z : Gm} {V : Nat → St} {s : State} {H : Heap} (hK : va_K (gD Z) vwCl (gT Z) s) (hP : va_P (gD Z) vwCl (bw Z V) H) (av : List Value) : ∀ U : State, U.heap = H → s.WarmedH U.vm → PW Z V av av.toArray U := fun _ hU hW => ⟨rfl, by rw [hU]; exact hP, va_K.moved hW.alike hK⟩
/-- what a call of y needs of the tables, whoever calls -/
def Card (y : MethodName) (bytes : ByteArray) (maxL : Nat) (ret : Option FieldType) (n : Nat) : Prop := Cond.code y bytes maxL ret ∈ gG ∧ Cond.initialized y.cls ∈ gG ∧ (y.cls ≠ "java/lang/invoke/MethodHandle" ∧ y.cls ≠ "java/lang/invoke/VarHandle") ∧ (parseMethodDescriptor y.desc).map (fun d => d.parameters.length) = some n
theorem gG_at {w : Cond} (h : w ∈ gG) : (w.onTables && w.keeps) = true ∨ ∃ ty, w = .arrayClass ty := good_of_word (List.all_eq_true.mp gG_good w h)
theorem gG_pay {s : State} {args : Array Value} (hts : ∀ w ∈ gG, w.before args s = true) {ws : List Cond} (h : ∀ w ∈ ws, w ∈ gG) : ∀ w ∈ ws, ∀ (a' : Array Value) (U : State), s.WarmedH U.vm → w.before a' U = true := fun w hw a' U hW => word_at hW (gG_at (h w hw)) (hts w (h w hw))
theorem gG_cons {c : Cond} (h : c ∈ gG) : ∀ w ∈ c :: gG, w ∈ gG := fun w hw => (List.mem_cons.mp hw).elim (fun e => e ▸ h) id
section CALLS
variable {p : Program} {l : Launch} {e : Env} {R : Room} {s : State} {m : MethodId} {args : Array Value} {below : List Frame} {meth : Method} {c : Code} {H : Heap} {locs : List Loc} {cells slots : Nat} {Q : State → Prop} {cc : ByteArray} {pc : Nat} {ls : Array Slot} {rest st : List Value} {Z : Gm} {V V' : Nat → St} {w k : Nat} {S : St} {own C : String} {index : Nat} {H0 : Heap} {y : MethodName} {bytes : ByteArray} {maxL n nL : Nat} {ret : Option FieldType} {rm : Room} {Pc : Array Value → State → Prop} {Qc : Array Value → State → Outcome → State → Prop} {free : Addr → Prop} {b : Addr} {As : List Value} {v : Option Value}
abbrev RmOk (rm R : Room) (maxL : Nat) : Prop := rm.cells = 0 ∧ rm.slots = 0 ∧ rm.frames + 1 ≤ R.frames ∧ 8 + (maxL + 11) + rm.locals ≤ R.locals
theorem cb_of (hts : ∀ w ∈ gG, w.before args s = true) (hc : Card y bytes maxL ret n) (hR : RmOk rm R maxL) (hlk : Cond.methodLink own index y ∈ gG) : CallB R s args own index y bytes maxL ret (.code y bytes maxL ret :: gG) rm 0 0 n := by
  refine ⟨hR.1, hR.2.1, hR.2.2.1, hR.2.2.2, gG_pay hts (gG_cons hc.1), List.mem_cons_self, hts _ hc.1, hts _ hc.2.1, hc.2.2.1, fun sig h => ?_, hts _ hlk⟩
  have h2 := hc.2.2.2
  rw [h] at h2
  exact (Option.some.inj h2).symm
theorem run_V (E : EE Z p s m args c cc own) (hml : c.maxLocals = nL) (hls : ls.size = nL) (hM : Met l y (.code y bytes maxL ret :: gG) rm (PW Z V (.ref b :: As)) Qc 0 0 free) (hc : Card y bytes maxL ret n) (hR : RmOk rm R maxL) (hlk : Cond.methodLink own index y ∈ gG) (hin : Cond.instanceMethod y ∈ gG) (hse : Cond.selects C y y ∈ gG) (hP : va_P (gD Z) vwCl (bw Z V) H)
    (hrv : ∃ cell : Cell, H[b]? = some cell ∧ cell.vm.isStatics = false ∧ s.vm.findClass C = some cell.cls) (hn : As.length = n) (hst : st = As.reverse ++ .ref b :: rest) (hrm : (rest.map fun v => v.category).sum ≤ 8) (hf : cells ≤ R.cells ∧ slots ≤ R.slots) (hdg : decode cc pc = .ok (.invokevirtual index, 3)) :
    va_Run p l e R s m args below meth c H locs cells slots 0 0 (F0 m pc ls st) rest (Qc (Value.ref b :: As).toArray) free :=
  va_runV ⟨E.1, E.2.1, hml, E.2.2.1, E.2.2.2.1⟩ hM ⟨cb_of E.2.2.2.1 hc hR hlk, E.2.2.2.1 _ hin, E.2.2.2.1 _ hse⟩ ⟨PW_blind Z V _, hrv, PW_at E.2.2.2.2 hP _⟩ rfl hn hls hst (lv_room (m := m) (pc := pc) (ls := ls) (rest := st) hrm) hdg hf
theorem run_S (E : EE Z p s m args c cc own) (hml : c.maxLocals = nL) (hls : ls.size = nL) (hM : Met l y (.code y bytes maxL ret :: gG) rm (PW Z V As) Qc 0 0 free) (hc : Card y bytes maxL ret n) (hR : RmOk rm R maxL) (hlk : Cond.methodLink own index y ∈ gG) (hse : Cond.static y ∈ gG) (hP : va_P (gD Z) vwCl (bw Z V) H)
    (hn : As.length = n) (hst : st = As.reverse ++ rest) (hrm : (rest.map fun v => v.category).sum ≤ 8) (hf : cells ≤ R.cells ∧ slots ≤ R.slots) (hdg : decode cc pc = .ok (.invokestatic index, 3)) :
    va_Run p l e R s m args below meth c H locs cells slots 0 0 (F0 m pc ls st) rest (Qc As.toArray) free :=
  va_runS ⟨E.1, E.2.1, hml, E.2.2.1, E.2.2.2.1⟩ hM ⟨cb_of E.2.2.2.1 hc hR hlk, E.2.2.2.1 _ hse⟩ ⟨PW_blind Z V _, PW_at E.2.2.2.2 hP _⟩ rfl hn hls hst (lv_room (m := m) (pc := pc) (ls := ls) (rest := st) hrm) hdg hf
/-- behind a call that only reads -/
theorem go_P {a : Array Value} (hr : va_Run p l e R s m args below meth c H locs cells slots 0 0 (F0 m pc ls st) rest (QP v a) (fun _ => False))
    (kk : W p l e R s m args below meth c H locs cells slots Q (F0 m (pc + 3) ls (v.toList ++ rest))) : W p l e R s m args below meth c H locs cells slots Q (F0 m pc ls st) := by
  intro T hT X
  obtain ⟨v1, st₀, t, T', L, h0, X', hL, e1, -, ⟨hv, hh⟩, sg⟩ := hr T hT X
  cases hv
  obtain ⟨t2, a1, b1⟩ := kk T' (by rw [e1, hh, h0]) (Stand.forget X' (fun q h => (hL q h).elim))
  exact ⟨t2, sg t2 a1, b1⟩
/-- behind a call that writes -/
theorem go_X {a : Array Value} (hr : va_Run p l e R s m args below meth c H locs cells slots 0 0 (F0 m pc ls st) rest (QX Z v V' a) (inW Z)) (hS : va_S (inW Z) H0 H locs)
    (kk : ∀ (H1 : Heap) (locs1 : List Loc), va_P (gD Z) vwCl (bw Z V') H1 → va_S (inW Z) H0 H1 locs1 → W p l e R s m args below meth c H1 locs1 cells slots Q (F0 m (pc + 3) ls (v.toList ++ rest))) : W p l e R s m args below meth c H locs cells slots Q (F0 m pc ls st) := by
  intro T hT X
  obtain ⟨v1, st₀, t, T', L, h0, X', hL, e1, -, ⟨hv, hp, hz, hk⟩, sg⟩ := hr T hT X
  cases hv
  rw [h0] at hz hk
  obtain ⟨t2, a1, b1⟩ := kk T'.heap (locs ++ L) (by rw [e1]; exact hp) ⟨Nat.le_trans hS.1 (by rw [e1]; exact hz), fun q h1 h2 => by rw [e1, hk q (Nat.lt_of_lt_of_le h1 hS.1) h2]; exact hS.2.1 q h1 h2, fun q hq => by
      rcases List.mem_append.mp hq with h | h
      · exact hS.2.2 q h
      · exact hL q h⟩ T' rfl X'
  exact ⟨t2, sg t2 a1, b1⟩
-- receivers
theorem rv_bay (E : EE Z p s m args c cc own) (hP : va_P (gD Z) vwCl (bw Z V) H) : ∃ cell : Cell, H[ad Z 0]? = some cell ∧ cell.vm.isStatics = false ∧ s.vm.findClass RX4 = some cell.cls := va_recv E.2.2.2.2 hP (ci := 4) (q := (RX4, TX4, 2)) rfl at_bay
theorem rv_ln (E : EE Z p s m args c cc own) (hP : va_P (gD Z) vwCl (bw Z V) H) (hw : w < 2) : ∃ cell : Cell, H[ad Z (cLn w)]? = some cell ∧ cell.vm.isStatics = false ∧ s.vm.findClass RX1 = some cell.cls := va_recv E.2.2.2.2 hP (ci := 1) (q := (RX1, TX1, 10)) rfl (at_ln rfl hw)
theorem rv_bk (E : EE Z p s m args c cc own) (hP : va_P (gD Z) vwCl (bw Z V) H) (hw : w < 2) (hk : k < 16) : ∃ cell : Cell, H[ad Z (cBk w k)]? = some cell ∧ cell.vm.isStatics = false ∧ s.vm.findClass RX0 = some cell.cls := va_recv E.2.2.2.2 hP (ci := 0) (q := (RX0, TX0, 4)) rfl (at_bk rfl hw hk)
theorem rv_rt (E : EE Z p s m args c cc own) (hP : va_P (gD Z) vwCl (bw Z V) H) (hw : w < 2) (hk : k < 16) : ∃ cell : Cell, H[ad Z (cRt w k)]? = some cell ∧ cell.vm.isStatics = false ∧ s.vm.findClass RX2 = some cell.cls := va_recv E.2.2.2.2 hP (ci := 2) (q := (RX2, TX2, 5)) rfl (at_rt rfl hw hk)
theorem rv_tr (E : EE Z p s m args c cc own) (hP : va_P (gD Z) vwCl (bw Z V) H) (hw : w < 2) (hk : k < 8) : ∃ cell : Cell, H[ad Z (cTr w k)]? = some cell ∧ cell.vm.isStatics = false ∧ s.vm.findClass RX3 = some cell.cls := va_recv E.2.2.2.2 hP (ci := 3) (q := (RX3, TX3, 16)) rfl (at_tr rfl hw hk)
/-- a method's body, from its start -/
theorem met_of {av : List Value} (hy : plainName y.cls = true) (hsz : (lg_sl av).length ≤ maxL)
    (body : ∀ (p : Program) (e : Env) (s : State) (m : MethodId) (args : Array Value) (below : List Frame) (meth : Method) (c : Code) (ls : Array Slot), EE Z p s m args c cc y.cls → meth.sig.returnType = ret → meth.locks = false → c.maxLocals = maxL → va_P (gD Z) vwCl (bw Z V) s.heap → lv_has ls maxL (lv_args 0 av) → W p l e rm s m args below meth c s.heap [] 0 0 (MQ below Qc args s 0 0 free) (F0 m 0 ls [])) :
    Met l y (.code y cc maxL ret :: gG) rm (PW Z V av) Qc 0 0 free := by
  refine Met.ofW (cc := cc) (maxL := maxL) (ret := ret) hy rfl ?_
  intro p e s m args below meth c s₁ B hml hv
  obtain ⟨rfl, hP, hK⟩ := hv
  have hts := atoms_spec (ws := .code y cc maxL ret :: gG) B.pre
  have hl := lv_entry av (n := maxL) hsz
  rw [lg_entry_eq]
  exact body p e s m _ below meth c _ ⟨B.exec, B.bytes, findClass_of_methodNamed B.named, fun w hw => hts w (List.mem_cons_of_mem _ hw), hK⟩ B.returns B.notSynchronized hml hP hl
-- the ends
theorem e_iP (E : EE Z p s m args c cc own) (hr : meth.sig.returnType = some .int) (hlk : meth.locks = false) {x r : Int32} (hx : x = r) (hdg : decode cc pc = .ok (.ireturn, 1)) : W p l e R s m args below meth c s.heap [] 0 0 (MQ below (QP (some (.int r))) args s 0 0 (fun _ => False)) (F0 m pc ls [.int x]) := by
  subst hx
  exact W.iret E.1 E.2.1 hr (fun t ht _ => ⟨rfl, ht⟩) (fun q h => by cases h) hdg (hlocks := hlk)
theorem e_zP (E : EE Z p s m args c cc own) (hr : meth.sig.returnType = some .boolean) (hlk : meth.locks = false) {x r : Int32} (hx : x = r) (h01 : x = 0 ∨ x = 1) (hdg : decode cc pc = .ok (.ireturn, 1)) : W p l e R s m args below meth c s.heap [] 0 0 (MQ below (QP (some (.int r))) args s 0 0 (fun _ => False)) (F0 m pc ls [.int x]) := by
  subst hx
  exact W.zret (ty := .boolean) E.1 E.2.1 hr (by rcases h01 with rfl | rfl <;> rfl) (fun t ht _ => ⟨rfl, ht⟩) (fun q h => by cases h) hdg (hlocks := hlk)
theorem e_lP (E : EE Z p s m args c cc own) (hr : meth.sig.returnType = some .long) (hlk : meth.locks = false) {x r : Int64} (hx : x = r) (hdg : decode cc pc = .ok (.lreturn, 1)) : W p l e R s m args below meth c s.heap [] 0 0 (MQ below (QP (some (.long r))) args s 0 0 (fun _ => False)) (F0 m pc ls [.long x]) := by
  subst hx
  exact W.lret E.1 E.2.1 hr (fun t ht _ => ⟨rfl, ht⟩) (fun q h => by cases h) hdg (hlocks := hlk)
theorem e_vP (E : EE Z p s m args c cc own) (hr : meth.sig.returnType = none) (hlk : meth.locks = false) (hdg : decode cc pc = .ok (.return_, 1)) : W p l e R s m args below meth c s.heap [] 0 0 (MQ below (QP none) args s 0 0 (fun _ => False)) (F0 m pc ls []) :=
  W.vret E.1 E.2.1 hr (fun t ht _ => ⟨rfl, ht⟩) (fun q h => by cases h) hdg (hlocks := hlk)
theorem e_vX (E : EE Z p s m args c cc own) (hr : meth.sig.returnType = none) (hlk : meth.locks = false) (hP : va_P (gD Z) vwCl (bw Z V) H) (hS : va_S (inW Z) s.heap H locs) (hV' : V = V') (hdg : decode cc pc = .ok (.return_, 1)) : W p l e R s m args below meth c H locs 0 0 (MQ below (QX Z none V') args s 0 0 (inW Z)) (F0 m pc ls []) := by
  subst hV'
  exact W.vret E.1 E.2.1 hr (fun t ht _ => ⟨rfl, by rw [ht]; exact hP, hS.F ht⟩) hS.2.2 hdg (hlocks := hlk)
theorem e_iX (E : EE Z p s m args c cc own) (hr : meth.sig.returnType = some .int) (hlk : meth.locks = false) (hP : va_P (gD Z) vwCl (bw Z V) H) (hS : va_S (inW Z) s.heap H locs) (hV' : V = V') {x r : Int32} (hx : x = r) (hdg : decode cc pc = .ok (.ireturn, 1)) : W p l e R s m args below meth c H locs 0 0 (MQ below (QX Z (some (.int r)) V') args s 0 0 (inW Z)) (F0 m pc ls [.int x]) := by
  subst hV'
  subst hx
  exact W.iret E.1 E.2.1 hr (fun t ht _ => ⟨rfl, by rw [ht]; exact hP, hS.F ht⟩) hS.2.2 hdg (hlocks := hlk)
end CALLS
section CALLS2
variable {p : Program} {l : Launch} {e : Env} {R : Room} {s : State} {m : MethodId} {args : Array Value} {below : List Frame} {meth : Method} {c : Code} {H : Heap} {locs : List Loc} {cells slots : Nat} {Q : State → Prop} {pc : Nat} {ls : Array Slot} {rest st : List Value} {Z : Gm} {V V' : Nat → St} {H0 : Heap} {a : Array Value}
theorem go_Pi {r : Int32} (hr : va_Run p l e R s m args below meth c H locs cells slots 0 0 (F0 m pc ls st) rest (QP (some (.int r)) a) (fun _ => False)) (kk : W p l e R s m args below meth c H locs cells slots Q (F0 m (pc + 3) ls (.int r :: rest))) : W p l e R s m args below meth c H locs cells slots Q (F0 m pc ls st) := go_P hr kk
theorem go_Pl {r : Int64} (hr : va_Run p l e R s m args below meth c H locs cells slots 0 0 (F0 m pc ls st) rest (QP (some (.long r)) a) (fun _ => False)) (kk : W p l e R s m args below meth c H locs cells slots Q (F0 m (pc + 3) ls (.long r :: rest))) : W p l e R s m args below meth c H locs cells slots Q (F0 m pc ls st) := go_P hr kk
theorem go_Pv (hr : va_Run p l e R s m args below meth c H locs cells slots 0 0 (F0 m pc ls st) rest (QP none a) (fun _ => False)) (kk : W p l e R s m args below meth c H locs cells slots Q (F0 m (pc + 3) ls rest)) : W p l e R s m args below meth c H locs cells slots Q (F0 m pc ls st) := go_P hr kk
theorem go_Xv (hr : va_Run p l e R s m args below meth c H locs cells slots 0 0 (F0 m pc ls st) rest (QX Z none V' a) (inW Z)) (hS : va_S (inW Z) H0 H locs)
    (kk : ∀ (H1 : Heap) (locs1 : List Loc), va_P (gD Z) vwCl (bw Z V') H1 → va_S (inW Z) H0 H1 locs1 → W p l e R s m args below meth c H1 locs1 cells slots Q (F0 m (pc + 3) ls rest)) : W p l e R s m args below meth c H locs cells slots Q (F0 m pc ls st) := go_X hr hS kk
theorem go_Xi {r : Int32} (hr : va_Run p l e R s m args below meth c H locs cells slots 0 0 (F0 m pc ls st) rest (QX Z (some (.int r)) V' a) (inW Z)) (hS : va_S (inW Z) H0 H locs)
    (kk : ∀ (H1 : Heap) (locs1 : List Loc), va_P (gD Z) vwCl (bw Z V') H1 → va_S (inW Z) H0 H1 locs1 → W p l e R s m args below meth c H1 locs1 cells slots Q (F0 m (pc + 3) ls (.int r :: rest))) : W p l e R s m args below meth c H locs cells slots Q (F0 m pc ls st) := go_X hr hS kk
end CALLS2
-- numbers
def b2i (b : Bool) : Int32 := if b = true then 1 else 0
theorem b2i_01 (b : Bool) : b2i b = 0 ∨ b2i b = 1 := by cases b; exact Or.inl rfl; exact Or.inr rfl
theorem b2i_t {b : Bool} (h : ¬ b2i b = 0) : b = true := by cases b; exact absurd rfl h; rfl
theorem b2i_f {b : Bool} (h : b2i b = 0) : b = false := by cases b; rfl; exact absurd h (by decide)
theorem b2i_true : b2i true = 1 := rfl
theorem b2i_false : b2i false = 0 := rfl
theorem vp_lt {x : Int32} {n : Nat} (h : vp_in x n) : x.toNatClampNeg < n := Nat.not_le.mp fun q => h (Or.inr q)
theorem vin {x N : Int32} {n : Nat} (h0 : ¬ x < 0) (h1 : ¬ N ≤ x) (hN : N.toInt ≤ n) : vp_in x n := by
  rw [vp_in_iff]
  have a1 : ¬ x.toInt < (0 : Int32).toInt := fun q => h0 (Int32.lt_iff_toInt_lt.mpr q)
  have a2 : ¬ N.toInt ≤ x.toInt := fun q => h1 (Int32.le_iff_toInt_le.mpr q)
  have a3 : (0 : Int32).toInt = 0 := rfl
  omega
theorem clampI (x : Int32) : (x.toNatClampNeg : Int) = if x.toInt < 0 then 0 else x.toInt := by
  show ((x.toInt.toNat : Nat) : Int) = _
  split <;> omega
theorem clamp_le {x : Int32} {n : Nat} (h : x.toNatClampNeg ≤ n) : x.toInt ≤ n := by
  have := clampI x
  split at this <;> omega
theorem clamp_lt31 (x : Int32) : x.toNatClampNeg < 2 ^ 31 := by
  have h := clampI x
  have h2 := Int32.toInt_lt x
  split at h <;> omega
/-- a loop's test: a counter against a bound that is any number -/
theorem le_nI {x : Int32} {i : Nat} (hi : i < 2 ^ 31) : x ≤ nI i ↔ x.toNatClampNeg ≤ i := by
  rw [Int32.le_iff_toInt_le, nI_toInt hi]
  have h := clampI x
  split at h <;> omega
theorem nI_lt0 {i : Nat} (hi : i < 2 ^ 31) : ¬ nI i < 0 := nI_pos hi
theorem nI_ne_m1 {i : Nat} (hi : i < 2 ^ 31) : nI i ≠ -1 := fun h => by
  have h1 := nI_toInt hi
  rw [h] at h1
  have h2 : (-1 : Int32).toInt = -1 := rfl
  omega
theorem nI_inj {a b : Nat} (ha : a < 2 ^ 31) (hb : b < 2 ^ 31) (h : nI a = nI b) : a = b := (nI_eq ha hb).mp h
theorem nI_of_in {x : Int32} {n : Nat} (hn : n ≤ 2 ^ 31) (h : vp_in x n) : x = nI x.toNatClampNeg := by
  obtain ⟨h0, h1⟩ := vp_in_iff.mp h
  have h2 := clampI x
  rw [if_neg (by omega)] at h2
  apply Int32.toInt_inj.mp
  rw [nI_toInt (by omega)]
  exact h2.symm
end
section
/-! What each method answers, and does, as a function of the state. -/
def cntTo (q : Nat → Bool) : Nat → Nat
  | 0 => 0
  | i + 1 => cntTo q i + (if q i = true then 1 else 0)
def iterF (g : Nat → St → St) : Nat → St → St
  | 0, S => S
  | i + 1, S => g i (iterF g i S)
def o2i (o : Option Nat) : Int32 := match o with
  | none => -1
  | some j => nI j
def nB (S : St) : Nat := (S 2 0 0).toNatClampNeg
def nR (S : St) : Nat := (S 4 0 0).toNatClampNeg
def nT (S : St) : Nat := (S 6 0 0).toNatClampNeg
def Lim (S : St) : Prop := nB S ≤ 16 ∧ nR S ≤ 16 ∧ nT S ≤ 8
-- Train
def stationF (S : St) (k : Nat) (x : Int32) : Int32 := if x < 0 then -1 else if 8 ≤ x then -1 else S 33 k x.toNatClampNeg
def timeF (S : St) (k : Nat) (x : Int32) : Int32 := if x < 0 then -1 else if 8 ≤ x then -1 else S 34 k x.toNatClampNeg
def onBlockF (S : St) (k : Nat) : Bool := decide (S 38 k 0 ≠ -1)
def atEndF (S : St) (k : Nat) : Bool := decide (S 38 k 0 ≠ -1 ∧ S 40 k 0 = 0)
def atStF (S : St) (k : Nat) : Bool := decide (S 36 k 0 ≠ -1)
def doneF (S : St) (k : Nat) : Bool := decide (S 36 k 0 = -1 ∧ S 38 k 0 = -1)
def lastF (S : St) (k : Nat) : Bool := decide (¬ S 35 k 0 < S 32 k 0 - 1)
def maxF (x y : Int32) : Int32 := if x < y then y else x
def beLateF (S : St) (k : Nat) (clock : Int32) : St := up S 42 k 0 (maxF 0 (clock - timeF S k (S 35 k 0)))
def waitF (S : St) (k : Nat) (o : Int32) : St := if o < 0 then up (up S 43 k 0 (S 43 k 0 + 1)) 44 k 0 o else if 8 ≤ o then up (up S 43 k 0 (S 43 k 0 + 1)) 44 k 0 o else up (up (up S 43 k 0 (S 43 k 0 + 1)) 44 k 0 o) 45 k o.toNatClampNeg (S 45 k o.toNatClampNeg + 1)
def addStopF (S : St) (k : Nat) (x t : Int32) : St := if S 32 k 0 < 0 then S else if 8 ≤ S 32 k 0 then S else up (up (up S 33 k (S 32 k 0).toNatClampNeg x) 34 k (S 32 k 0).toNatClampNeg t) 32 k 0 (S 32 k 0 + 1)
def cpA (U S : St) (f k n : Nat) : St := fun f' k' j => if f' = f ∧ k' = k ∧ j < n then S f k j else U f' k' j
def cp1 (U S : St) (f k : Nat) : St := up U f k 0 (S f k 0)
def trCopyF (U S : St) (k : Nat) : St := cpA (cp1 (cp1 (cp1 (cp1 (cp1 (cp1 (cp1 (cp1 (cp1 (cp1 (cpA (cpA (cp1 (cp1 (cp1 U S 30 k) S 31 k) S 32 k) S 33 k 8) S 34 k 8) S 35 k) S 36 k) S 37 k) S 38 k) S 39 k) S 40 k) S 41 k) S 42 k) S 43 k) S 44 k) S 45 k 8
-- Block
def bkCopyF (U S : St) (k : Nat) : St := cp1 (cp1 (cp1 (cp1 U S 10 k) S 11 k) S 12 k) S 13 k
-- Route
def layF (S : St) (k : Nat) (a b c : Int32) : St := up (up (up (up S 20 k 0 a) 21 k 0 b) 22 k 0 c) 23 k 0 0
def addBlockF (S : St) (k : Nat) (b : Int32) : St := if S 23 k 0 < 0 then S else if 5 ≤ S 23 k 0 then S else up (up S 24 k (S 23 k 0).toNatClampNeg b) 23 k 0 (S 23 k 0 + 1)
def blockAtF (S : St) (k : Nat) (x : Int32) : Int32 := if x < 0 then -1 else if 5 ≤ x then -1 else S 24 k x.toNatClampNeg
def hasBlockF (S : St) (k : Nat) (b : Int32) : Nat → Bool
  | 0 => false
  | i + 1 => hasBlockF S k b i || decide (blockAtF S k (nI i) = b)
def joinsF (S : St) (k : Nat) (a b : Int32) : Bool := decide (S 20 k 0 = a ∧ S 21 k 0 = b)
def toClearF (S : St) (k : Nat) : Int32 := if S 22 k 0 = 0 then 1 else S 23 k 0
def rtCopyF (U S : St) (k : Nat) : St := iterF (fun i T => addBlockF T k (blockAtF S k (nI i))) (S 23 k 0).toNatClampNeg (layF U k (S 20 k 0) (S 21 k 0) (S 22 k 0))
-- Line
def tillF (S : St) (t : Int32) : Int32 := if t ≤ S 9 0 0 then -1 else t
def underF (S : St) (i : Nat) : Int32 := if S 38 i 0 < 0 then -1 else if S 4 0 0 ≤ S 38 i 0 then -1 else blockAtF S (S 38 i 0).toNatClampNeg (S 39 i 0)
def clearF (S : St) (b n : Int32) : Bool := if b < 0 then false else if ¬ b < S 2 0 0 then false else decide (¬ S 9 0 0 < S 13 b.toNatClampNeg 0 ∧ S 11 b.toNatClampNeg 0 = -1 ∧ (S 12 b.toNatClampNeg 0 = -1 ∨ S 12 b.toNatClampNeg 0 = n))
def inWayF (S : St) (b n : Int32) : Int32 := if b < 0 then -1 else if ¬ b < S 2 0 0 then -1 else if S 11 b.toNatClampNeg 0 = -1 then (if S 12 b.toNatClampNeg 0 = n then -1 else S 12 b.toNatClampNeg 0) else S 11 b.toNatClampNeg 0
def atQ (S : St) (x : Int32) (k : Nat) : Bool := decide (S 36 k 0 = x)
def wayQ (S : St) (x : Int32) (k : Nat) : Bool := decide (¬ S 38 k 0 < 0 ∧ ¬ S 4 0 0 ≤ S 38 k 0 ∧ S 21 (S 38 k 0).toNatClampNeg 0 = x)
def hasRoomF (S : St) (x : Int32) : Bool := if x < 0 then false else if 6 ≤ x then false else decide (¬ S 0 0 x.toNatClampNeg ≤ nI (cntTo (atQ S x) (nT S)) + nI (cntTo (wayQ S x) (nT S)))
def inUseF (S : St) (x : Int32) : Nat → Bool
  | 0 => false
  | i + 1 => inUseF S x i || decide (S 38 i 0 = x)
/-- the first block that isn't clear, of n from the place i on -/
def fncL (S : St) (r : Nat) (x : Int32) : Nat → Nat → Int32
  | 0, _ => -1
  | n + 1, i => if clearF S (blockAtF S r (nI i)) x = true then fncL S r x n (i + 1) else blockAtF S r (nI i)
def fncF (S : St) (r : Nat) (x : Int32) : Int32 := fncL S r x (toClearF S r).toNatClampNeg 0
def openF (S : St) (r : Nat) (x : Int32) : Bool := hasRoomF S (S 21 r 0) && decide (fncF S r x = -1)
def blameF (S : St) (r : Nat) (x : Int32) : Int32 := inWayF S (fncF S r x) x
def readyF (S : St) (i : Nat) : Bool := atStF S i && (!lastF S i && decide (¬ S 9 0 0 < timeF S i (S 35 i 0) ∧ ¬ S 9 0 0 - S 37 i 0 < S 8 0 0 ∧ ¬ S 9 0 0 < S 41 i 0))
def leadsF (S : St) (r i : Nat) : Bool := joinsF S r (S 36 i 0) (stationF S i (S 35 i 0 + 1))
def aheadF (S : St) (i j : Nat) : Bool := if S 7 0 0 = 1 then decide (¬ S 30 i 0 ≤ S 30 j 0) else decide (S 7 0 0 = 2 ∧ ¬ timeF S j (S 35 j 0) ≤ timeF S i (S 35 i 0))
def stuckL (S : St) (x : Int32) : Nat → Int32 → Bool
  | 0, _ => false
  | n + 1, o => if o < 0 then false else if ¬ o < S 6 0 0 then false else if S 44 o.toNatClampNeg 0 = x then true else stuckL S x n (S 44 o.toNatClampNeg 0)
def stuckF (S : St) (i : Nat) : Bool := stuckL S (nI i) (nT S) (nI i)
def leaveF (S : St) (i : Nat) : St := if underF S i < 0 then S else if S 2 0 0 ≤ underF S i then S else up S 11 (underF S i).toNatClampNeg 0 (-1)
def enterF (S : St) (i : Nat) (x q : Int32) : St := if blockAtF S x.toNatClampNeg q < 0 then S else if ¬ blockAtF S x.toNatClampNeg q < S 2 0 0 then S else
  up (up (up (up (up (up S 36 i 0 (-1)) 38 i 0 x) 39 i 0 q) 40 i 0 (S 10 (blockAtF S x.toNatClampNeg q).toNatClampNeg 0 * S 31 i 0)) 11 (blockAtF S x.toNatClampNeg q).toNatClampNeg 0 (nI i)) 12 (blockAtF S x.toNatClampNeg q).toNatClampNeg 0 (-1)
def comeT (S : St) (i : Nat) : St := if lastF S i = true then beLateF S i (S 9 0 0) else up S 36 i 0 (stationF S i (S 35 i 0))
def comeF (S : St) (i : Nat) : St := comeT (up (up (up (leaveF S i) 38 i 0 (-1)) 35 i 0 (leaveF S i 35 i 0 + 1)) 37 i 0 (leaveF S i 9 0 0)) i
def rollT (S : St) (i : Nat) : St := if 0 < S 40 i 0 then S else if S 38 i 0 < 0 then S else if ¬ S 38 i 0 < S 4 0 0 then S else
  if ¬ S 39 i 0 + 1 < S 23 (S 38 i 0).toNatClampNeg 0 then comeF S i else
  if clearF S (blockAtF S (S 38 i 0).toNatClampNeg (S 39 i 0 + 1)) (nI i) = true then enterF (leaveF S i) i (leaveF S i 38 i 0) (S 39 i 0 + 1)
  else waitF S i (inWayF S (blockAtF S (S 38 i 0).toNatClampNeg (S 39 i 0 + 1)) (nI i))
def rollF (S : St) (i : Nat) : St := rollT (if S 40 i 0 ≤ 0 then S else up S 40 i 0 (S 40 i 0 - 1)) i
def lockF (S : St) (i r : Nat) : St := iterF (fun j U => if blockAtF S r (nI (j + 1)) < 0 then U else if S 2 0 0 ≤ blockAtF S r (nI (j + 1)) then U else up U 12 (blockAtF S r (nI (j + 1))).toNatClampNeg 0 (nI i)) ((S 23 r 0).toNatClampNeg - 1) S
def setOutT (S : St) (i r : Nat) : St := if S 22 r 0 = 0 then S else lockF S i r
def setOutF (S : St) (i r : Nat) : St := setOutT (enterF (beLateF S i (S 9 0 0)) i (nI r) 0) i r
def turnL (S : St) (i : Nat) : Nat → Nat → Int32 → St
  | 0, _, f => waitF S i (if f = -1 then -1 else blameF S f.toNatClampNeg (nI i))
  | n + 1, r, f => if leadsF S r i = true then (if openF S r (nI i) = true then setOutF S i r else turnL S i n (r + 1) (if f = -1 then nI r else f)) else turnL S i n (r + 1) f
def turnF (S : St) (i : Nat) : St := turnL S i (nR S) 0 (-1)
def dueF (S : St) (t : Int32) (i : Nat) : Bool := decide ((t >>> (nI i &&& 31)) &&& 1 = 0) && readyF S i
def fstL (S : St) (t : Int32) : Nat → Int32
  | 0 => -1
  | i + 1 => if dueF S t i = true then (if fstL S t i = -1 then nI i else if aheadF S i (fstL S t i).toNatClampNeg = true then nI i else fstL S t i) else fstL S t i
def giveL : Nat → St → Int32 → St
  | 0, S, _ => S
  | n + 1, S, t => if fstL S t (nT S) = -1 then S else giveL n (turnF S (fstL S t (nT S)).toNatClampNeg) (t ||| ((1 : Int32) <<< (fstL S t (nT S) &&& 31)))
def giveF (S : St) : St := giveL (nT S) S 0
def forgetF (S : St) : St := iterF (fun i U => up U 44 i 0 (-1)) (nT S) S
def rollsF (S : St) : St := iterF (fun i U => if onBlockF U i = true then rollF U i else U) (nT S) S
def tickF (S : St) : St := giveF (rollsF (forgetF (up S 9 0 0 (S 9 0 0 + 1))))
def ticksF (S : St) (n : Nat) : St := iterF (fun _ U => tickF U) n S
def sumDone (S : St) : Nat := cntTo (doneF S) (nT S)
def copyF (U S : St) : St :=
  let U1 := up (cpA U S 0 0 6) 2 0 0 (S 2 0 0)
  let U2 := up (iterF (fun i T => bkCopyF T S i) (nB S) U1) 4 0 0 (S 4 0 0)
  let U3 := up (iterF (fun i T => rtCopyF T S i) (nR S) U2) 6 0 0 (S 6 0 0)
  let U4 := iterF (fun i T => trCopyF T S i) (nT S) U3
  up (up (up U4 7 0 0 (S 7 0 0)) 8 0 0 (S 8 0 0)) 9 0 0 (S 9 0 0)
end
section
/-! Train, Route, Block: what each method does. -/
theorem vinL {x N : Int32} {n : Nat} (h0 : ¬ x < 0) (h1 : x < N) (hN : N.toInt ≤ n) : vp_in x n := vin h0 (Int32.not_le.mpr h1) hN
theorem lq1 {x : Int32} {i : Nat} (hi : i < 2 ^ 31) (c : x ≤ nI i) : x.toNatClampNeg ≤ i := (le_nI hi).mp c
theorem lq2 {x : Int32} {i : Nat} (hi : i < 2 ^ 31) (c : ¬ x ≤ nI i) : i < x.toNatClampNeg := Nat.not_le.mp fun h => c ((le_nI hi).mpr h)
theorem fin0 {V V' : Nat → St} {w : Nat} {S S' : St} (hV : V w = S) (hV' : upL V w S' = V') (h : S = S') : V = V' := by rw [← hV', ← h, ← hV, upL_self]
theorem fin1 {V V' : Nat → St} {w : Nat} {S1 S' : St} (hV' : upL V w S' = V') (h : S1 = S') : upL V w S1 = V' := by rw [h]; exact hV'
theorem hasB_true {S : St} {k : Nat} {b : Int32} {i n : Nat} (hi : i < n) (h : blockAtF S k (nI i) = b) : hasBlockF S k b n = true := by
  induction n with
  | zero => omega
  | succ n ih =>
    rcases Nat.lt_or_ge i n with h1 | h1
    · simp [hasBlockF, ih h1]
    · have : i = n := by omega
      subst this
      simp [hasBlockF, h]
abbrev rm_X3_stationOf : Room := { frames := 0, cells := 0, slots := 0, locals := 0 }
theorem k_X3_stationOf : Card yX3_stationOf cX3_stationOf 2 (some .int) 1 := ⟨gw_204, gw_32, by decide +kernel, by decide +kernel⟩
set_option maxHeartbeats 4000000 in
set_option maxRecDepth 20000 in
theorem c_X3_stationOf (l : Launch) {Z : Gm} {V : Nat → St} {w : Nat} {S : St} (hV : V w = S) (hw : w < 2) {k : Nat} (hk : k < 8) (x : Int32) : Met l yX3_stationOf (.code yX3_stationOf cX3_stationOf 2 (some .int) :: gG) rm_X3_stationOf (PW Z V [.ref (ad Z (cTr w k)), .int x]) (QP (some (.int (stationF S k x)))) 0 0 (fun _ => False) := by
  refine met_of (by decide +kernel) (Nat.le_of_ble_eq_true rfl) ?_
  intro p e s m args below meth c ls E hr hlk hml hP hl
  have E : EE Z p s m args c cX3_stationOf RX3 := E
  have hl : lv_has ls 2 [(0, .ref (ad Z (cTr w k))), (1, .int x)] := hl
  refine lv_iload_n E.1 E.2.1 dX3_stationOf_0 rfl (lv_at hl 1 rfl) ?_
  refine lv_if_lt (tgt := 22) E.1 E.2.1 dX3_stationOf_1 (by decide) (fun c_1 => ?_) (fun c_1 => ?_)
  · refine lv_iconst (v := (-1)) E.1 E.2.1 dX3_stationOf_22 (by decide) ?_
    exact e_iP E hr hlk (by simp [stationF, c_1]) dX3_stationOf_23
  · refine lv_iload_n E.1 E.2.1 dX3_stationOf_4 rfl (lv_at hl 1 rfl) ?_
    refine lv_aload_n E.1 E.2.1 dX3_stationOf_5 rfl (lv_at hl 0 rfl) ?_
    refine g_tr E hP hV hw (by omega) 3 (by decide) gw_45 rfl dX3_stationOf_6 ?_
    refine l_st E hP hw (by omega) dX3_stationOf_9 ?_
    refine lv_icmp_ge (tgt := 22) E.1 E.2.1 dX3_stationOf_10 (by decide) (fun c_10 => ?_) (fun c_10 => ?_)
    · refine lv_iconst (v := (-1)) E.1 E.2.1 dX3_stationOf_22 (by decide) ?_
      exact e_iP E hr hlk (by simp [stationF, c_1, c_10]) dX3_stationOf_23
    · refine lv_aload_n E.1 E.2.1 dX3_stationOf_13 rfl (lv_at hl 0 rfl) ?_
      refine g_tr E hP hV hw (by omega) 3 (by decide) gw_45 rfl dX3_stationOf_14 ?_
      refine lv_iload_n E.1 E.2.1 dX3_stationOf_17 rfl (lv_at hl 1 rfl) ?_
      have hin_18 : vp_in x 8 := vin c_1 c_10 (by decide)
      refine i_st (j := (x.toNatClampNeg)) E hP hV hw (by omega) rfl hin_18 dX3_stationOf_18 ?_
      refine lv_goto (tgt := 23) E.1 E.2.1 dX3_stationOf_19 (by decide) ?_
      exact e_iP E hr hlk (by simp [stationF, c_1, c_10]) dX3_stationOf_23

abbrev rm_X3_timeOf : Room := { frames := 0, cells := 0, slots := 0, locals := 0 }
theorem k_X3_timeOf : Card yX3_timeOf cX3_timeOf 2 (some .int) 1 := ⟨gw_200, gw_32, by decide +kernel, by decide +kernel⟩
set_option maxHeartbeats 4000000 in
set_option maxRecDepth 20000 in
theorem c_X3_timeOf (l : Launch) {Z : Gm} {V : Nat → St} {w : Nat} {S : St} (hV : V w = S) (hw : w < 2) {k : Nat} (hk : k < 8) (x : Int32) : Met l yX3_timeOf (.code yX3_timeOf cX3_timeOf 2 (some .int) :: gG) rm_X3_timeOf (PW Z V [.ref (ad Z (cTr w k)), .int x]) (QP (some (.int (timeF S k x)))) 0 0 (fun _ => False) := by
  refine met_of (by decide +kernel) (Nat.le_of_ble_eq_true rfl) ?_
  intro p e s m args below meth c ls E hr hlk hml hP hl
  have E : EE Z p s m args c cX3_timeOf RX3 := E
  have hl : lv_has ls 2 [(0, .ref (ad Z (cTr w k))), (1, .int x)] := hl
  refine lv_iload_n E.1 E.2.1 dX3_timeOf_0 rfl (lv_at hl 1 rfl) ?_
  refine lv_if_lt (tgt := 22) E.1 E.2.1 dX3_timeOf_1 (by decide) (fun c_1 => ?_) (fun c_1 => ?_)
  · refine lv_iconst (v := (-1)) E.1 E.2.1 dX3_timeOf_22 (by decide) ?_
    exact e_iP E hr hlk (by simp [timeF, c_1]) dX3_timeOf_23
  · refine lv_iload_n E.1 E.2.1 dX3_timeOf_4 rfl (lv_at hl 1 rfl) ?_
    refine lv_aload_n E.1 E.2.1 dX3_timeOf_5 rfl (lv_at hl 0 rfl) ?_
    refine g_tr E hP hV hw (by omega) 4 (by decide) gw_46 rfl dX3_timeOf_6 ?_
    refine l_tm E hP hw (by omega) dX3_timeOf_9 ?_
    refine lv_icmp_ge (tgt := 22) E.1 E.2.1 dX3_timeOf_10 (by decide) (fun c_10 => ?_) (fun c_10 => ?_)
    · refine lv_iconst (v := (-1)) E.1 E.2.1 dX3_timeOf_22 (by decide) ?_
      exact e_iP E hr hlk (by simp [timeF, c_1, c_10]) dX3_timeOf_23
    · refine lv_aload_n E.1 E.2.1 dX3_timeOf_13 rfl (lv_at hl 0 rfl) ?_
      refine g_tr E hP hV hw (by omega) 4 (by decide) gw_46 rfl dX3_timeOf_14 ?_
      refine lv_iload_n E.1 E.2.1 dX3_timeOf_17 rfl (lv_at hl 1 rfl) ?_
      have hin_18 : vp_in x 8 := vin c_1 c_10 (by decide)
      refine i_tm (j := (x.toNatClampNeg)) E hP hV hw (by omega) rfl hin_18 dX3_timeOf_18 ?_
      refine lv_goto (tgt := 23) E.1 E.2.1 dX3_timeOf_19 (by decide) ?_
      exact e_iP E hr hlk (by simp [timeF, c_1, c_10]) dX3_timeOf_23

abbrev rm_X3_isOnBlock : Room := { frames := 0, cells := 0, slots := 0, locals := 0 }
theorem k_X3_isOnBlock : Card yX3_isOnBlock cX3_isOnBlock 1 (some .boolean) 0 := ⟨gw_256, gw_32, by decide +kernel, by decide +kernel⟩
set_option maxHeartbeats 4000000 in
set_option maxRecDepth 20000 in
theorem c_X3_isOnBlock (l : Launch) {Z : Gm} {V : Nat → St} {w : Nat} {S : St} (hV : V w = S) (hw : w < 2) {k : Nat} (hk : k < 8) : Met l yX3_isOnBlock (.code yX3_isOnBlock cX3_isOnBlock 1 (some .boolean) :: gG) rm_X3_isOnBlock (PW Z V [.ref (ad Z (cTr w k))]) (QP (some (.int (b2i (onBlockF S k))))) 0 0 (fun _ => False) := by
  refine met_of (by decide +kernel) (Nat.le_of_ble_eq_true rfl) ?_
  intro p e s m args below meth c ls E hr hlk hml hP hl
  have E : EE Z p s m args c cX3_isOnBlock RX3 := E
  have hl : lv_has ls 1 [(0, .ref (ad Z (cTr w k)))] := hl
  refine lv_aload_n E.1 E.2.1 dX3_isOnBlock_0 rfl (lv_at hl 0 rfl) ?_
  refine g_tr (v := .int (S 38 k 0)) E hP hV hw (by omega) 8 (by decide) gw_48 rfl dX3_isOnBlock_1 ?_
  refine lv_iconst (v := (-1)) E.1 E.2.1 dX3_isOnBlock_4 (by decide) ?_
  refine lv_icmp_eq (tgt := 12) E.1 E.2.1 dX3_isOnBlock_5 (by decide) (fun c_5 => ?_) (fun c_5 => ?_)
  · refine lv_iconst (v := 0) E.1 E.2.1 dX3_isOnBlock_12 (by decide) ?_
    exact e_zP E hr hlk (by simp [onBlockF, b2i, c_5]) (Or.inl rfl) dX3_isOnBlock_13
  · refine lv_iconst (v := 1) E.1 E.2.1 dX3_isOnBlock_8 (by decide) ?_
    refine lv_goto (tgt := 13) E.1 E.2.1 dX3_isOnBlock_9 (by decide) ?_
    exact e_zP E hr hlk (by simp [onBlockF, b2i, c_5]) (Or.inr rfl) dX3_isOnBlock_13

abbrev rm_X3_isAtEndOfBlock : Room := { frames := 0, cells := 0, slots := 0, locals := 0 }
theorem k_X3_isAtEndOfBlock : Card yX3_isAtEndOfBlock cX3_isAtEndOfBlock 1 (some .boolean) 0 := ⟨gw_314, gw_32, by decide +kernel, by decide +kernel⟩
set_option maxHeartbeats 4000000 in
set_option maxRecDepth 20000 in
theorem c_X3_isAtEndOfBlock (l : Launch) {Z : Gm} {V : Nat → St} {w : Nat} {S : St} (hV : V w = S) (hw : w < 2) {k : Nat} (hk : k < 8) : Met l yX3_isAtEndOfBlock (.code yX3_isAtEndOfBlock cX3_isAtEndOfBlock 1 (some .boolean) :: gG) rm_X3_isAtEndOfBlock (PW Z V [.ref (ad Z (cTr w k))]) (QP (some (.int (b2i (atEndF S k))))) 0 0 (fun _ => False) := by
  refine met_of (by decide +kernel) (Nat.le_of_ble_eq_true rfl) ?_
  intro p e s m args below meth c ls E hr hlk hml hP hl
  have E : EE Z p s m args c cX3_isAtEndOfBlock RX3 := E
  have hl : lv_has ls 1 [(0, .ref (ad Z (cTr w k)))] := hl
  refine lv_aload_n E.1 E.2.1 dX3_isAtEndOfBlock_0 rfl (lv_at hl 0 rfl) ?_
  refine g_tr (v := .int (S 38 k 0)) E hP hV hw (by omega) 8 (by decide) gw_48 rfl dX3_isAtEndOfBlock_1 ?_
  refine lv_iconst (v := (-1)) E.1 E.2.1 dX3_isAtEndOfBlock_4 (by decide) ?_
  refine lv_icmp_eq (tgt := 19) E.1 E.2.1 dX3_isAtEndOfBlock_5 (by decide) (fun c_5 => ?_) (fun c_5 => ?_)
  · refine lv_iconst (v := 0) E.1 E.2.1 dX3_isAtEndOfBlock_19 (by decide) ?_
    exact e_zP E hr hlk (by simp [atEndF, b2i, c_5]) (Or.inl rfl) dX3_isAtEndOfBlock_20
  · refine lv_aload_n E.1 E.2.1 dX3_isAtEndOfBlock_8 rfl (lv_at hl 0 rfl) ?_
    refine g_tr (v := .int (S 40 k 0)) E hP hV hw (by omega) 10 (by decide) gw_315 rfl dX3_isAtEndOfBlock_9 ?_
    refine lv_if_ne (tgt := 19) E.1 E.2.1 dX3_isAtEndOfBlock_12 (by decide) (fun c_12 => ?_) (fun c_12 => ?_)
    · refine lv_iconst (v := 0) E.1 E.2.1 dX3_isAtEndOfBlock_19 (by decide) ?_
      exact e_zP E hr hlk (by simp [atEndF, b2i, c_5, c_12]) (Or.inl rfl) dX3_isAtEndOfBlock_20
    · refine lv_iconst (v := 1) E.1 E.2.1 dX3_isAtEndOfBlock_15 (by decide) ?_
      refine lv_goto (tgt := 20) E.1 E.2.1 dX3_isAtEndOfBlock_16 (by decide) ?_
      exact e_zP E hr hlk (by simp [atEndF, b2i, c_5, c_12]) (Or.inr rfl) dX3_isAtEndOfBlock_20

abbrev rm_X3_isAtStation : Room := { frames := 0, cells := 0, slots := 0, locals := 0 }
theorem k_X3_isAtStation : Card yX3_isAtStation cX3_isAtStation 1 (some .boolean) 0 := ⟨gw_248, gw_32, by decide +kernel, by decide +kernel⟩
set_option maxHeartbeats 4000000 in
set_option maxRecDepth 20000 in
theorem c_X3_isAtStation (l : Launch) {Z : Gm} {V : Nat → St} {w : Nat} {S : St} (hV : V w = S) (hw : w < 2) {k : Nat} (hk : k < 8) : Met l yX3_isAtStation (.code yX3_isAtStation cX3_isAtStation 1 (some .boolean) :: gG) rm_X3_isAtStation (PW Z V [.ref (ad Z (cTr w k))]) (QP (some (.int (b2i (atStF S k))))) 0 0 (fun _ => False) := by
  refine met_of (by decide +kernel) (Nat.le_of_ble_eq_true rfl) ?_
  intro p e s m args below meth c ls E hr hlk hml hP hl
  have E : EE Z p s m args c cX3_isAtStation RX3 := E
  have hl : lv_has ls 1 [(0, .ref (ad Z (cTr w k)))] := hl
  refine lv_aload_n E.1 E.2.1 dX3_isAtStation_0 rfl (lv_at hl 0 rfl) ?_
  refine g_tr (v := .int (S 36 k 0)) E hP hV hw (by omega) 6 (by decide) gw_47 rfl dX3_isAtStation_1 ?_
  refine lv_iconst (v := (-1)) E.1 E.2.1 dX3_isAtStation_4 (by decide) ?_
  refine lv_icmp_eq (tgt := 12) E.1 E.2.1 dX3_isAtStation_5 (by decide) (fun c_5 => ?_) (fun c_5 => ?_)
  · refine lv_iconst (v := 0) E.1 E.2.1 dX3_isAtStation_12 (by decide) ?_
    exact e_zP E hr hlk (by simp [atStF, b2i, c_5]) (Or.inl rfl) dX3_isAtStation_13
  · refine lv_iconst (v := 1) E.1 E.2.1 dX3_isAtStation_8 (by decide) ?_
    refine lv_goto (tgt := 13) E.1 E.2.1 dX3_isAtStation_9 (by decide) ?_
    exact e_zP E hr hlk (by simp [atStF, b2i, c_5]) (Or.inr rfl) dX3_isAtStation_13

abbrev rm_X3_isDone : Room := { frames := 0, cells := 0, slots := 0, locals := 0 }
theorem k_X3_isDone : Card yX3_isDone cX3_isDone 1 (some .boolean) 0 := ⟨gw_212, gw_32, by decide +kernel, by decide +kernel⟩
set_option maxHeartbeats 4000000 in
set_option maxRecDepth 20000 in
theorem c_X3_isDone (l : Launch) {Z : Gm} {V : Nat → St} {w : Nat} {S : St} (hV : V w = S) (hw : w < 2) {k : Nat} (hk : k < 8) : Met l yX3_isDone (.code yX3_isDone cX3_isDone 1 (some .boolean) :: gG) rm_X3_isDone (PW Z V [.ref (ad Z (cTr w k))]) (QP (some (.int (b2i (doneF S k))))) 0 0 (fun _ => False) := by
  refine met_of (by decide +kernel) (Nat.le_of_ble_eq_true rfl) ?_
  intro p e s m args below meth c ls E hr hlk hml hP hl
  have E : EE Z p s m args c cX3_isDone RX3 := E
  have hl : lv_has ls 1 [(0, .ref (ad Z (cTr w k)))] := hl
  refine lv_aload_n E.1 E.2.1 dX3_isDone_0 rfl (lv_at hl 0 rfl) ?_
  refine g_tr (v := .int (S 36 k 0)) E hP hV hw (by omega) 6 (by decide) gw_47 rfl dX3_isDone_1 ?_
  refine lv_iconst (v := (-1)) E.1 E.2.1 dX3_isDone_4 (by decide) ?_
  refine lv_icmp_ne (tgt := 20) E.1 E.2.1 dX3_isDone_5 (by decide) (fun c_5 => ?_) (fun c_5 => ?_)
  · refine lv_iconst (v := 0) E.1 E.2.1 dX3_isDone_20 (by decide) ?_
    exact e_zP E hr hlk (by simp [doneF, b2i, c_5]) (Or.inl rfl) dX3_isDone_21
  · refine lv_aload_n E.1 E.2.1 dX3_isDone_8 rfl (lv_at hl 0 rfl) ?_
    refine g_tr (v := .int (S 38 k 0)) E hP hV hw (by omega) 8 (by decide) gw_48 rfl dX3_isDone_9 ?_
    refine lv_iconst (v := (-1)) E.1 E.2.1 dX3_isDone_12 (by decide) ?_
    refine lv_icmp_ne (tgt := 20) E.1 E.2.1 dX3_isDone_13 (by decide) (fun c_13 => ?_) (fun c_13 => ?_)
    · refine lv_iconst (v := 0) E.1 E.2.1 dX3_isDone_20 (by decide) ?_
      exact e_zP E hr hlk (by simp [doneF, b2i, c_5, c_13]) (Or.inl rfl) dX3_isDone_21
    · refine lv_iconst (v := 1) E.1 E.2.1 dX3_isDone_16 (by decide) ?_
      refine lv_goto (tgt := 21) E.1 E.2.1 dX3_isDone_17 (by decide) ?_
      exact e_zP E hr hlk (by simp [doneF, b2i, c_5, c_13]) (Or.inr rfl) dX3_isDone_21

abbrev rm_X3_isAtLastStop : Room := { frames := 0, cells := 0, slots := 0, locals := 0 }
theorem k_X3_isAtLastStop : Card yX3_isAtLastStop cX3_isAtLastStop 1 (some .boolean) 0 := ⟨gw_308, gw_32, by decide +kernel, by decide +kernel⟩
set_option maxHeartbeats 4000000 in
set_option maxRecDepth 20000 in
theorem c_X3_isAtLastStop (l : Launch) {Z : Gm} {V : Nat → St} {w : Nat} {S : St} (hV : V w = S) (hw : w < 2) {k : Nat} (hk : k < 8) : Met l yX3_isAtLastStop (.code yX3_isAtLastStop cX3_isAtLastStop 1 (some .boolean) :: gG) rm_X3_isAtLastStop (PW Z V [.ref (ad Z (cTr w k))]) (QP (some (.int (b2i (lastF S k))))) 0 0 (fun _ => False) := by
  refine met_of (by decide +kernel) (Nat.le_of_ble_eq_true rfl) ?_
  intro p e s m args below meth c ls E hr hlk hml hP hl
  have E : EE Z p s m args c cX3_isAtLastStop RX3 := E
  have hl : lv_has ls 1 [(0, .ref (ad Z (cTr w k)))] := hl
  refine lv_aload_n E.1 E.2.1 dX3_isAtLastStop_0 rfl (lv_at hl 0 rfl) ?_
  refine g_tr (v := .int (S 35 k 0)) E hP hV hw (by omega) 5 (by decide) gw_309 rfl dX3_isAtLastStop_1 ?_
  refine lv_aload_n E.1 E.2.1 dX3_isAtLastStop_4 rfl (lv_at hl 0 rfl) ?_
  refine g_tr (v := .int (S 32 k 0)) E hP hV hw (by omega) 2 (by decide) gw_187 rfl dX3_isAtLastStop_5 ?_
  refine lv_iconst (v := 1) E.1 E.2.1 dX3_isAtLastStop_8 (by decide) ?_
  refine lv_isub E.1 E.2.1 dX3_isAtLastStop_9 ?_
  refine lv_icmp_lt (tgt := 17) E.1 E.2.1 dX3_isAtLastStop_10 (by decide) (fun c_10 => ?_) (fun c_10 => ?_)
  · refine lv_iconst (v := 0) E.1 E.2.1 dX3_isAtLastStop_17 (by decide) ?_
    exact e_zP E hr hlk (by first | (simp [lastF, b2i, c_10]; done) | (simp [lastF, b2i, Int32.not_lt.mp c_10]; done) | (simp [lastF, b2i, Int32.not_le.mpr c_10]; done)) (Or.inl rfl) dX3_isAtLastStop_18
  · refine lv_iconst (v := 1) E.1 E.2.1 dX3_isAtLastStop_13 (by decide) ?_
    refine lv_goto (tgt := 18) E.1 E.2.1 dX3_isAtLastStop_14 (by decide) ?_
    exact e_zP E hr hlk (by first | (simp [lastF, b2i, c_10]; done) | (simp [lastF, b2i, Int32.not_lt.mp c_10]; done) | (simp [lastF, b2i, Int32.not_le.mpr c_10]; done)) (Or.inr rfl) dX3_isAtLastStop_18

abbrev rm_X3_beLate : Room := { frames := 1, cells := 0, slots := 0, locals := 21 }
theorem k_X3_beLate : Card yX3_beLate cX3_beLate 2 none 1 := ⟨gw_394, gw_32, by decide +kernel, by decide +kernel⟩
set_option maxHeartbeats 4000000 in
set_option maxRecDepth 20000 in
theorem c_X3_beLate (l : Launch) {Z : Gm} (hA : AA Z) {V : Nat → St} {V' : Nat → St} {w : Nat} {S : St} (hV : V w = S) (hw : w < 2) {k : Nat} (hk : k < 8) (x : Int32) (hV' : upL V w (beLateF S k x) = V') : Met l yX3_beLate (.code yX3_beLate cX3_beLate 2 none :: gG) rm_X3_beLate (PW Z V [.ref (ad Z (cTr w k)), .int x]) (QX Z none V') 0 0 (inW Z) := by
  refine met_of (by decide +kernel) (Nat.le_of_ble_eq_true rfl) ?_
  intro p e s m args below meth c ls E hr hlk hml hP hl
  have E : EE Z p s m args c cX3_beLate RX3 := E
  have hl : lv_has ls 2 [(0, .ref (ad Z (cTr w k))), (1, .int x)] := hl
  have hS : va_S (inW Z) s.heap s.heap [] := va_S.rf
  refine lv_aload_n E.1 E.2.1 dX3_beLate_0 rfl (lv_at hl 0 rfl) ?_
  refine lv_iconst (v := 0) E.1 E.2.1 dX3_beLate_1 (by decide) ?_
  refine lv_iload_n E.1 E.2.1 dX3_beLate_2 rfl (lv_at hl 1 rfl) ?_
  refine lv_aload_n E.1 E.2.1 dX3_beLate_3 rfl (lv_at hl 0 rfl) ?_
  refine lv_aload_n E.1 E.2.1 dX3_beLate_4 rfl (lv_at hl 0 rfl) ?_
  refine g_tr (v := .int (S 35 k 0)) E hP hV hw (by omega) 5 (by decide) gw_309 rfl dX3_beLate_5 ?_
  refine go_Pi (run_V (rest := [.int x, .int 0, .ref (ad Z (cTr w k))]) E hml hl.1 (c_X3_timeOf l  hV hw (by omega) (S 35 k 0)) k_X3_timeOf ⟨rfl, rfl, Nat.le_of_ble_eq_true rfl, Nat.le_of_ble_eq_true rfl⟩ gw_399 gw_198 gw_199 hP (rv_tr E hP hw (by omega)) rfl rfl (Nat.le_of_ble_eq_true rfl) ⟨Nat.zero_le _, Nat.zero_le _⟩ dX3_beLate_8) ?_
  refine lv_isub E.1 E.2.1 dX3_beLate_11 ?_
  refine va_mmax E.1 E.2.1 (hml.trans hl.1.symm) E.2.2.1 (E.2.2.2.1 _ gw_395) (E.2.2.2.1 _ gw_396) (E.2.2.2.1 _ gw_397) (E.2.2.2.1 _ gw_398) (Nat.le_of_ble_eq_true rfl) (Nat.le_of_ble_eq_true rfl) (Nat.zero_le _) (Nat.zero_le _) dX3_beLate_12 ?_
  refine p_tr E hP hA hS hV hw (by omega) 12 (by decide) gw_366 (V' := upL V w (up S 42 k 0 (if 0 < (x - (timeF S k (S 35 k 0))) then (x - (timeF S k (S 35 k 0))) else 0))) rfl dX3_beLate_15 (fun H locs hP hS => ?_)
  exact e_vX E hr hlk hP hS (fin1 hV' (by rfl)) dX3_beLate_18

abbrev rm_X3_waitOneTick : Room := { frames := 0, cells := 0, slots := 0, locals := 0 }
theorem k_X3_waitOneTick : Card yX3_waitOneTick cX3_waitOneTick 2 none 1 := ⟨gw_419, gw_32, by decide +kernel, by decide +kernel⟩
set_option maxHeartbeats 4000000 in
set_option maxRecDepth 20000 in
theorem c_X3_waitOneTick (l : Launch) {Z : Gm} (hA : AA Z) {V : Nat → St} {V' : Nat → St} {w : Nat} {S : St} (hV : V w = S) (hw : w < 2) {k : Nat} (hk : k < 8) (x : Int32) (hV' : upL V w (waitF S k x) = V') : Met l yX3_waitOneTick (.code yX3_waitOneTick cX3_waitOneTick 2 none :: gG) rm_X3_waitOneTick (PW Z V [.ref (ad Z (cTr w k)), .int x]) (QX Z none V') 0 0 (inW Z) := by
  refine met_of (by decide +kernel) (Nat.le_of_ble_eq_true rfl) ?_
  intro p e s m args below meth c ls E hr hlk hml hP hl
  have E : EE Z p s m args c cX3_waitOneTick RX3 := E
  have hl : lv_has ls 2 [(0, .ref (ad Z (cTr w k))), (1, .int x)] := hl
  have hS : va_S (inW Z) s.heap s.heap [] := va_S.rf
  refine lv_aload_n E.1 E.2.1 dX3_waitOneTick_0 rfl (lv_at hl 0 rfl) ?_
  refine lv_dup E.1 E.2.1 dX3_waitOneTick_1 rfl ?_
  refine g_tr (v := .int (S 43 k 0)) E hP hV hw (by omega) 13 (by decide) gw_367 rfl dX3_waitOneTick_2 ?_
  refine lv_iconst (v := 1) E.1 E.2.1 dX3_waitOneTick_5 (by decide) ?_
  refine lv_iadd E.1 E.2.1 dX3_waitOneTick_6 ?_
  refine p_tr E hP hA hS hV hw (by omega) 13 (by decide) gw_367 (V' := upL V w (up S 43 k 0 ((S 43 k 0) + 1))) rfl dX3_waitOneTick_7 (fun H locs hP hS => ?_)
  refine lv_aload_n E.1 E.2.1 dX3_waitOneTick_10 rfl (lv_at hl 0 rfl) ?_
  refine lv_iload_n E.1 E.2.1 dX3_waitOneTick_11 rfl (lv_at hl 1 rfl) ?_
  refine p_tr E hP hA hS (upL_same V w (up S 43 k 0 ((S 43 k 0) + 1))) hw (by omega) 14 (by decide) gw_49 (V' := upL V w (up (up S 43 k 0 ((S 43 k 0) + 1)) 44 k 0 x)) (upL_upL V w _ _) dX3_waitOneTick_12 (fun H locs hP hS => ?_)
  refine lv_iload_n E.1 E.2.1 dX3_waitOneTick_15 rfl (lv_at hl 1 rfl) ?_
  refine lv_if_lt (tgt := 38) E.1 E.2.1 dX3_waitOneTick_16 (by decide) (fun c_16 => ?_) (fun c_16 => ?_)
  · exact e_vX E hr hlk hP hS (fin1 hV' (by simp [waitF, up, c_16])) dX3_waitOneTick_38
  · refine lv_iload_n E.1 E.2.1 dX3_waitOneTick_19 rfl (lv_at hl 1 rfl) ?_
    refine lv_aload_n E.1 E.2.1 dX3_waitOneTick_20 rfl (lv_at hl 0 rfl) ?_
    refine g_tr E hP (upL_same V w (up (up S 43 k 0 ((S 43 k 0) + 1)) 44 k 0 x)) hw (by omega) 15 (by decide) gw_50 rfl dX3_waitOneTick_21 ?_
    refine l_wf E hP hw (by omega) dX3_waitOneTick_24 ?_
    refine lv_icmp_ge (tgt := 38) E.1 E.2.1 dX3_waitOneTick_25 (by decide) (fun c_25 => ?_) (fun c_25 => ?_)
    · exact e_vX E hr hlk hP hS (fin1 hV' (by simp [waitF, up, c_16, c_25])) dX3_waitOneTick_38
    · refine lv_aload_n E.1 E.2.1 dX3_waitOneTick_28 rfl (lv_at hl 0 rfl) ?_
      refine g_tr E hP (upL_same V w (up (up S 43 k 0 ((S 43 k 0) + 1)) 44 k 0 x)) hw (by omega) 15 (by decide) gw_50 rfl dX3_waitOneTick_29 ?_
      refine lv_iload_n E.1 E.2.1 dX3_waitOneTick_32 rfl (lv_at hl 1 rfl) ?_
      refine lv_dup2_11 E.1 E.2.1 dX3_waitOneTick_33 rfl rfl ?_
      have hin_34 : vp_in x 8 := vin c_16 c_25 (by decide)
      refine i_wf (j := (x.toNatClampNeg)) E hP (upL_same V w (up (up S 43 k 0 ((S 43 k 0) + 1)) 44 k 0 x)) hw (by omega) rfl hin_34 dX3_waitOneTick_34 ?_
      refine lv_iconst (v := 1) E.1 E.2.1 dX3_waitOneTick_35 (by decide) ?_
      refine lv_iadd E.1 E.2.1 dX3_waitOneTick_36 ?_
      have hin_37 : vp_in x 8 := vin c_16 c_25 (by decide)
      refine s_wf (j := (x.toNatClampNeg)) E hP hA hS (upL_same V w (up (up S 43 k 0 ((S 43 k 0) + 1)) 44 k 0 x)) hw (by omega) rfl hin_37 (V' := upL V w (up (up (up S 43 k 0 ((S 43 k 0) + 1)) 44 k 0 x) 45 k (x.toNatClampNeg) (((up (up S 43 k 0 ((S 43 k 0) + 1)) 44 k 0 x) 45 k (x.toNatClampNeg)) + 1))) (upL_upL V w _ _) dX3_waitOneTick_37 (fun H locs hP hS => ?_)
      exact e_vX E hr hlk hP hS (fin1 hV' (by simp [waitF, up, c_16, c_25])) dX3_waitOneTick_38

abbrev rm_X3_addStop : Room := { frames := 0, cells := 0, slots := 0, locals := 0 }
theorem k_X3_addStop : Card yX3_addStop cX3_addStop 3 none 2 := ⟨gw_186, gw_32, by decide +kernel, by decide +kernel⟩
set_option maxHeartbeats 4000000 in
set_option maxRecDepth 20000 in
theorem c_X3_addStop (l : Launch) {Z : Gm} (hA : AA Z) {V : Nat → St} {V' : Nat → St} {w : Nat} {S : St} (hV : V w = S) (hw : w < 2) {k : Nat} (hk : k < 8) (x t : Int32) (hV' : upL V w (addStopF S k x t) = V') : Met l yX3_addStop (.code yX3_addStop cX3_addStop 3 none :: gG) rm_X3_addStop (PW Z V [.ref (ad Z (cTr w k)), .int x, .int t]) (QX Z none V') 0 0 (inW Z) := by
  refine met_of (by decide +kernel) (Nat.le_of_ble_eq_true rfl) ?_
  intro p e s m args below meth c ls E hr hlk hml hP hl
  have E : EE Z p s m args c cX3_addStop RX3 := E
  have hl : lv_has ls 3 [(0, .ref (ad Z (cTr w k))), (1, .int x), (2, .int t)] := hl
  have hS : va_S (inW Z) s.heap s.heap [] := va_S.rf
  refine lv_aload_n E.1 E.2.1 dX3_addStop_0 rfl (lv_at hl 0 rfl) ?_
  refine g_tr (v := .int (S 32 k 0)) E hP hV hw (by omega) 2 (by decide) gw_187 rfl dX3_addStop_1 ?_
  refine lv_if_lt (tgt := 46) E.1 E.2.1 dX3_addStop_4 (by decide) (fun c_4 => ?_) (fun c_4 => ?_)
  · exact e_vX E hr hlk hP hS (fin0 hV hV' (by simp [addStopF, up, c_4])) dX3_addStop_46
  · refine lv_aload_n E.1 E.2.1 dX3_addStop_7 rfl (lv_at hl 0 rfl) ?_
    refine g_tr (v := .int (S 32 k 0)) E hP hV hw (by omega) 2 (by decide) gw_187 rfl dX3_addStop_8 ?_
    refine lv_bipush (v := 8) E.1 E.2.1 dX3_addStop_11 (by decide) ?_
    refine lv_icmp_ge (tgt := 46) E.1 E.2.1 dX3_addStop_13 (by decide) (fun c_13 => ?_) (fun c_13 => ?_)
    · exact e_vX E hr hlk hP hS (fin0 hV hV' (by simp [addStopF, up, c_4, c_13])) dX3_addStop_46
    · refine lv_aload_n E.1 E.2.1 dX3_addStop_16 rfl (lv_at hl 0 rfl) ?_
      refine g_tr E hP hV hw (by omega) 3 (by decide) gw_45 rfl dX3_addStop_17 ?_
      refine lv_aload_n E.1 E.2.1 dX3_addStop_20 rfl (lv_at hl 0 rfl) ?_
      refine g_tr (v := .int (S 32 k 0)) E hP hV hw (by omega) 2 (by decide) gw_187 rfl dX3_addStop_21 ?_
      refine lv_iload_n E.1 E.2.1 dX3_addStop_24 rfl (lv_at hl 1 rfl) ?_
      have hin_25 : vp_in (S 32 k 0) 8 := vin c_4 c_13 (by decide)
      refine s_st (j := ((S 32 k 0).toNatClampNeg)) E hP hA hS hV hw (by omega) rfl hin_25 (V' := upL V w (up S 33 k ((S 32 k 0).toNatClampNeg) x)) rfl dX3_addStop_25 (fun H locs hP hS => ?_)
      refine lv_aload_n E.1 E.2.1 dX3_addStop_26 rfl (lv_at hl 0 rfl) ?_
      refine g_tr E hP (upL_same V w (up S 33 k ((S 32 k 0).toNatClampNeg) x)) hw (by omega) 4 (by decide) gw_46 rfl dX3_addStop_27 ?_
      refine lv_aload_n E.1 E.2.1 dX3_addStop_30 rfl (lv_at hl 0 rfl) ?_
      refine g_tr (v := .int (S 32 k 0)) E hP (upL_same V w (up S 33 k ((S 32 k 0).toNatClampNeg) x)) hw (by omega) 2 (by decide) gw_187 (by first | rfl | simp [fTr, up_f, up_s]) dX3_addStop_31 ?_
      refine lv_iload_n E.1 E.2.1 dX3_addStop_34 rfl (lv_at hl 2 rfl) ?_
      have hin_35 : vp_in (S 32 k 0) 8 := vin c_4 c_13 (by decide)
      refine s_tm (j := ((S 32 k 0).toNatClampNeg)) E hP hA hS (upL_same V w (up S 33 k ((S 32 k 0).toNatClampNeg) x)) hw (by omega) rfl hin_35 (V' := upL V w (up (up S 33 k ((S 32 k 0).toNatClampNeg) x) 34 k ((S 32 k 0).toNatClampNeg) t)) (upL_upL V w _ _) dX3_addStop_35 (fun H locs hP hS => ?_)
      refine lv_aload_n E.1 E.2.1 dX3_addStop_36 rfl (lv_at hl 0 rfl) ?_
      refine lv_dup E.1 E.2.1 dX3_addStop_37 rfl ?_
      refine g_tr (v := .int (S 32 k 0)) E hP (upL_same V w (up (up S 33 k ((S 32 k 0).toNatClampNeg) x) 34 k ((S 32 k 0).toNatClampNeg) t)) hw (by omega) 2 (by decide) gw_187 (by first | rfl | simp [fTr, up_f, up_s]) dX3_addStop_38 ?_
      refine lv_iconst (v := 1) E.1 E.2.1 dX3_addStop_41 (by decide) ?_
      refine lv_iadd E.1 E.2.1 dX3_addStop_42 ?_
      refine p_tr E hP hA hS (upL_same V w (up (up S 33 k ((S 32 k 0).toNatClampNeg) x) 34 k ((S 32 k 0).toNatClampNeg) t)) hw (by omega) 2 (by decide) gw_187 (V' := upL V w (up (up (up S 33 k ((S 32 k 0).toNatClampNeg) x) 34 k ((S 32 k 0).toNatClampNeg) t) 32 k 0 ((S 32 k 0) + 1))) (upL_upL V w _ _) dX3_addStop_43 (fun H locs hP hS => ?_)
      exact e_vX E hr hlk hP hS (fin1 hV' (by simp [addStopF, up, c_4, c_13])) dX3_addStop_46

abbrev rm_X2_lay : Room := { frames := 0, cells := 0, slots := 0, locals := 0 }
theorem k_X2_lay : Card yX2_lay cX2_lay 4 none 3 := ⟨gw_95, gw_30, by decide +kernel, by decide +kernel⟩
set_option maxHeartbeats 4000000 in
set_option maxRecDepth 20000 in
theorem c_X2_lay (l : Launch) {Z : Gm} (hA : AA Z) {V : Nat → St} {V' : Nat → St} {w : Nat} {S : St} (hV : V w = S) (hw : w < 2) {k : Nat} (hk : k < 16) (a b z : Int32) (hz : z = 0 ∨ z = 1) (hV' : upL V w (layF S k a b z) = V') : Met l yX2_lay (.code yX2_lay cX2_lay 4 none :: gG) rm_X2_lay (PW Z V [.ref (ad Z (cRt w k)), .int a, .int b, .int z]) (QX Z none V') 0 0 (inW Z) := by
  refine met_of (by decide +kernel) (Nat.le_of_ble_eq_true rfl) ?_
  intro p e s m args below meth c ls E hr hlk hml hP hl
  have E : EE Z p s m args c cX2_lay RX2 := E
  have hl : lv_has ls 4 [(0, .ref (ad Z (cRt w k))), (1, .int a), (2, .int b), (3, .int z)] := hl
  have hS : va_S (inW Z) s.heap s.heap [] := va_S.rf
  refine lv_aload_n E.1 E.2.1 dX2_lay_0 rfl (lv_at hl 0 rfl) ?_
  refine lv_iload_n E.1 E.2.1 dX2_lay_1 rfl (lv_at hl 1 rfl) ?_
  refine p_rt E hP hA hS hV hw (by omega) 0 (by decide) gw_96 (fun h => absurd h (by decide)) (V' := upL V w (up S 20 k 0 a)) rfl dX2_lay_2 (fun H locs hP hS => ?_)
  refine lv_aload_n E.1 E.2.1 dX2_lay_5 rfl (lv_at hl 0 rfl) ?_
  refine lv_iload_n E.1 E.2.1 dX2_lay_6 rfl (lv_at hl 2 rfl) ?_
  refine p_rt E hP hA hS (upL_same V w (up S 20 k 0 a)) hw (by omega) 1 (by decide) gw_97 (fun h => absurd h (by decide)) (V' := upL V w (up (up S 20 k 0 a) 21 k 0 b)) (upL_upL V w _ _) dX2_lay_7 (fun H locs hP hS => ?_)
  refine lv_aload_n E.1 E.2.1 dX2_lay_10 rfl (lv_at hl 0 rfl) ?_
  refine lv_iload_n E.1 E.2.1 dX2_lay_11 rfl (lv_at hl 3 rfl) ?_
  refine p_rt E hP hA hS (upL_same V w (up (up S 20 k 0 a) 21 k 0 b)) hw (by omega) 2 (by decide) gw_98 (fun _ => hz) (V' := upL V w (up (up (up S 20 k 0 a) 21 k 0 b) 22 k 0 z)) (upL_upL V w _ _) dX2_lay_12 (fun H locs hP hS => ?_)
  refine lv_aload_n E.1 E.2.1 dX2_lay_15 rfl (lv_at hl 0 rfl) ?_
  refine lv_iconst (v := 0) E.1 E.2.1 dX2_lay_16 (by decide) ?_
  refine p_rt E hP hA hS (upL_same V w (up (up (up S 20 k 0 a) 21 k 0 b) 22 k 0 z)) hw (by omega) 3 (by decide) gw_99 (fun h => absurd h (by decide)) (V' := upL V w (up (up (up (up S 20 k 0 a) 21 k 0 b) 22 k 0 z) 23 k 0 0)) (upL_upL V w _ _) dX2_lay_17 (fun H locs hP hS => ?_)
  exact e_vX E hr hlk hP hS (fin1 hV' (by rfl)) dX2_lay_20

abbrev rm_X2_addBlock : Room := { frames := 0, cells := 0, slots := 0, locals := 0 }
theorem k_X2_addBlock : Card yX2_addBlock cX2_addBlock 2 none 1 := ⟨gw_103, gw_30, by decide +kernel, by decide +kernel⟩
set_option maxHeartbeats 4000000 in
set_option maxRecDepth 20000 in
theorem c_X2_addBlock (l : Launch) {Z : Gm} (hA : AA Z) {V : Nat → St} {V' : Nat → St} {w : Nat} {S : St} (hV : V w = S) (hw : w < 2) {k : Nat} (hk : k < 16) (b : Int32) (hV' : upL V w (addBlockF S k b) = V') : Met l yX2_addBlock (.code yX2_addBlock cX2_addBlock 2 none :: gG) rm_X2_addBlock (PW Z V [.ref (ad Z (cRt w k)), .int b]) (QX Z none V') 0 0 (inW Z) := by
  refine met_of (by decide +kernel) (Nat.le_of_ble_eq_true rfl) ?_
  intro p e s m args below meth c ls E hr hlk hml hP hl
  have E : EE Z p s m args c cX2_addBlock RX2 := E
  have hl : lv_has ls 2 [(0, .ref (ad Z (cRt w k))), (1, .int b)] := hl
  have hS : va_S (inW Z) s.heap s.heap [] := va_S.rf
  refine lv_aload_n E.1 E.2.1 dX2_addBlock_0 rfl (lv_at hl 0 rfl) ?_
  refine g_rt (v := .int (S 23 k 0)) E hP hV hw (by omega) 3 (by decide) gw_99 rfl dX2_addBlock_1 ?_
  refine lv_if_lt (tgt := 39) E.1 E.2.1 dX2_addBlock_4 (by decide) (fun c_4 => ?_) (fun c_4 => ?_)
  · exact e_vX E hr hlk hP hS (fin0 hV hV' (by simp [addBlockF, up, c_4])) dX2_addBlock_39
  · refine lv_aload_n E.1 E.2.1 dX2_addBlock_7 rfl (lv_at hl 0 rfl) ?_
    refine g_rt (v := .int (S 23 k 0)) E hP hV hw (by omega) 3 (by decide) gw_99 rfl dX2_addBlock_8 ?_
    refine lv_aload_n E.1 E.2.1 dX2_addBlock_11 rfl (lv_at hl 0 rfl) ?_
    refine g_rt E hP hV hw (by omega) 4 (by decide) gw_41 rfl dX2_addBlock_12 ?_
    refine l_rb E hP hw (by omega) dX2_addBlock_15 ?_
    refine lv_icmp_ge (tgt := 39) E.1 E.2.1 dX2_addBlock_16 (by decide) (fun c_16 => ?_) (fun c_16 => ?_)
    · exact e_vX E hr hlk hP hS (fin0 hV hV' (by simp [addBlockF, up, c_4, c_16])) dX2_addBlock_39
    · refine lv_aload_n E.1 E.2.1 dX2_addBlock_19 rfl (lv_at hl 0 rfl) ?_
      refine g_rt E hP hV hw (by omega) 4 (by decide) gw_41 rfl dX2_addBlock_20 ?_
      refine lv_aload_n E.1 E.2.1 dX2_addBlock_23 rfl (lv_at hl 0 rfl) ?_
      refine g_rt (v := .int (S 23 k 0)) E hP hV hw (by omega) 3 (by decide) gw_99 rfl dX2_addBlock_24 ?_
      refine lv_iload_n E.1 E.2.1 dX2_addBlock_27 rfl (lv_at hl 1 rfl) ?_
      have hin_28 : vp_in (S 23 k 0) 5 := vin c_4 c_16 (by decide)
      refine s_rb (j := ((S 23 k 0).toNatClampNeg)) E hP hA hS hV hw (by omega) rfl hin_28 (V' := upL V w (up S 24 k ((S 23 k 0).toNatClampNeg) b)) rfl dX2_addBlock_28 (fun H locs hP hS => ?_)
      refine lv_aload_n E.1 E.2.1 dX2_addBlock_29 rfl (lv_at hl 0 rfl) ?_
      refine lv_dup E.1 E.2.1 dX2_addBlock_30 rfl ?_
      refine g_rt (v := .int (S 23 k 0)) E hP (upL_same V w (up S 24 k ((S 23 k 0).toNatClampNeg) b)) hw (by omega) 3 (by decide) gw_99 (by first | rfl | simp [fRt, up_f, up_s]) dX2_addBlock_31 ?_
      refine lv_iconst (v := 1) E.1 E.2.1 dX2_addBlock_34 (by decide) ?_
      refine lv_iadd E.1 E.2.1 dX2_addBlock_35 ?_
      refine p_rt E hP hA hS (upL_same V w (up S 24 k ((S 23 k 0).toNatClampNeg) b)) hw (by omega) 3 (by decide) gw_99 (fun h => absurd h (by decide)) (V' := upL V w (up (up S 24 k ((S 23 k 0).toNatClampNeg) b) 23 k 0 ((S 23 k 0) + 1))) (upL_upL V w _ _) dX2_addBlock_36 (fun H locs hP hS => ?_)
      exact e_vX E hr hlk hP hS (fin1 hV' (by simp [addBlockF, up, c_4, c_16])) dX2_addBlock_39

abbrev rm_X2_blockAt : Room := { frames := 0, cells := 0, slots := 0, locals := 0 }
theorem k_X2_blockAt : Card yX2_blockAt cX2_blockAt 2 (some .int) 1 := ⟨gw_129, gw_30, by decide +kernel, by decide +kernel⟩
set_option maxHeartbeats 4000000 in
set_option maxRecDepth 20000 in
theorem c_X2_blockAt (l : Launch) {Z : Gm} {V : Nat → St} {w : Nat} {S : St} (hV : V w = S) (hw : w < 2) {k : Nat} (hk : k < 16) (x : Int32) : Met l yX2_blockAt (.code yX2_blockAt cX2_blockAt 2 (some .int) :: gG) rm_X2_blockAt (PW Z V [.ref (ad Z (cRt w k)), .int x]) (QP (some (.int (blockAtF S k x)))) 0 0 (fun _ => False) := by
  refine met_of (by decide +kernel) (Nat.le_of_ble_eq_true rfl) ?_
  intro p e s m args below meth c ls E hr hlk hml hP hl
  have E : EE Z p s m args c cX2_blockAt RX2 := E
  have hl : lv_has ls 2 [(0, .ref (ad Z (cRt w k))), (1, .int x)] := hl
  refine lv_iload_n E.1 E.2.1 dX2_blockAt_0 rfl (lv_at hl 1 rfl) ?_
  refine lv_if_lt (tgt := 22) E.1 E.2.1 dX2_blockAt_1 (by decide) (fun c_1 => ?_) (fun c_1 => ?_)
  · refine lv_iconst (v := (-1)) E.1 E.2.1 dX2_blockAt_22 (by decide) ?_
    exact e_iP E hr hlk (by simp [blockAtF, c_1]) dX2_blockAt_23
  · refine lv_iload_n E.1 E.2.1 dX2_blockAt_4 rfl (lv_at hl 1 rfl) ?_
    refine lv_aload_n E.1 E.2.1 dX2_blockAt_5 rfl (lv_at hl 0 rfl) ?_
    refine g_rt E hP hV hw (by omega) 4 (by decide) gw_41 rfl dX2_blockAt_6 ?_
    refine l_rb E hP hw (by omega) dX2_blockAt_9 ?_
    refine lv_icmp_ge (tgt := 22) E.1 E.2.1 dX2_blockAt_10 (by decide) (fun c_10 => ?_) (fun c_10 => ?_)
    · refine lv_iconst (v := (-1)) E.1 E.2.1 dX2_blockAt_22 (by decide) ?_
      exact e_iP E hr hlk (by simp [blockAtF, c_1, c_10]) dX2_blockAt_23
    · refine lv_aload_n E.1 E.2.1 dX2_blockAt_13 rfl (lv_at hl 0 rfl) ?_
      refine g_rt E hP hV hw (by omega) 4 (by decide) gw_41 rfl dX2_blockAt_14 ?_
      refine lv_iload_n E.1 E.2.1 dX2_blockAt_17 rfl (lv_at hl 1 rfl) ?_
      have hin_18 : vp_in x 5 := vin c_1 c_10 (by decide)
      refine i_rb (j := (x.toNatClampNeg)) E hP hV hw (by omega) rfl hin_18 dX2_blockAt_18 ?_
      refine lv_goto (tgt := 23) E.1 E.2.1 dX2_blockAt_19 (by decide) ?_
      exact e_iP E hr hlk (by simp [blockAtF, c_1, c_10]) dX2_blockAt_23

abbrev rm_X2_joins : Room := { frames := 0, cells := 0, slots := 0, locals := 0 }
theorem k_X2_joins : Card yX2_joins cX2_joins 3 (some .boolean) 2 := ⟨gw_445, gw_30, by decide +kernel, by decide +kernel⟩
set_option maxHeartbeats 4000000 in
set_option maxRecDepth 20000 in
theorem c_X2_joins (l : Launch) {Z : Gm} {V : Nat → St} {w : Nat} {S : St} (hV : V w = S) (hw : w < 2) {k : Nat} (hk : k < 16) (a b : Int32) : Met l yX2_joins (.code yX2_joins cX2_joins 3 (some .boolean) :: gG) rm_X2_joins (PW Z V [.ref (ad Z (cRt w k)), .int a, .int b]) (QP (some (.int (b2i (joinsF S k a b))))) 0 0 (fun _ => False) := by
  refine met_of (by decide +kernel) (Nat.le_of_ble_eq_true rfl) ?_
  intro p e s m args below meth c ls E hr hlk hml hP hl
  have E : EE Z p s m args c cX2_joins RX2 := E
  have hl : lv_has ls 3 [(0, .ref (ad Z (cRt w k))), (1, .int a), (2, .int b)] := hl
  refine lv_aload_n E.1 E.2.1 dX2_joins_0 rfl (lv_at hl 0 rfl) ?_
  refine g_rt (v := .int (S 20 k 0)) E hP hV hw (by omega) 0 (by decide) gw_96 rfl dX2_joins_1 ?_
  refine lv_iload_n E.1 E.2.1 dX2_joins_4 rfl (lv_at hl 1 rfl) ?_
  refine lv_icmp_ne (tgt := 20) E.1 E.2.1 dX2_joins_5 (by decide) (fun c_5 => ?_) (fun c_5 => ?_)
  · refine lv_iconst (v := 0) E.1 E.2.1 dX2_joins_20 (by decide) ?_
    exact e_zP E hr hlk (by simp [joinsF, b2i, c_5]) (Or.inl rfl) dX2_joins_21
  · refine lv_aload_n E.1 E.2.1 dX2_joins_8 rfl (lv_at hl 0 rfl) ?_
    refine g_rt (v := .int (S 21 k 0)) E hP hV hw (by omega) 1 (by decide) gw_97 rfl dX2_joins_9 ?_
    refine lv_iload_n E.1 E.2.1 dX2_joins_12 rfl (lv_at hl 2 rfl) ?_
    refine lv_icmp_ne (tgt := 20) E.1 E.2.1 dX2_joins_13 (by decide) (fun c_13 => ?_) (fun c_13 => ?_)
    · refine lv_iconst (v := 0) E.1 E.2.1 dX2_joins_20 (by decide) ?_
      exact e_zP E hr hlk (by simp [joinsF, b2i, c_5, c_13]) (Or.inl rfl) dX2_joins_21
    · refine lv_iconst (v := 1) E.1 E.2.1 dX2_joins_16 (by decide) ?_
      refine lv_goto (tgt := 21) E.1 E.2.1 dX2_joins_17 (by decide) ?_
      exact e_zP E hr hlk (by simp [joinsF, b2i, c_5, c_13]) (Or.inr rfl) dX2_joins_21

abbrev rm_X2_countToBeClear : Room := { frames := 0, cells := 0, slots := 0, locals := 0 }
theorem k_X2_countToBeClear : Card yX2_countToBeClear cX2_countToBeClear 1 (some .int) 0 := ⟨gw_458, gw_30, by decide +kernel, by decide +kernel⟩
set_option maxHeartbeats 4000000 in
set_option maxRecDepth 20000 in
theorem c_X2_countToBeClear (l : Launch) {Z : Gm} {V : Nat → St} {w : Nat} {S : St} (hV : V w = S) (hw : w < 2) {k : Nat} (hk : k < 16) : Met l yX2_countToBeClear (.code yX2_countToBeClear cX2_countToBeClear 1 (some .int) :: gG) rm_X2_countToBeClear (PW Z V [.ref (ad Z (cRt w k))]) (QP (some (.int (toClearF S k)))) 0 0 (fun _ => False) := by
  refine met_of (by decide +kernel) (Nat.le_of_ble_eq_true rfl) ?_
  intro p e s m args below meth c ls E hr hlk hml hP hl
  have E : EE Z p s m args c cX2_countToBeClear RX2 := E
  have hl : lv_has ls 1 [(0, .ref (ad Z (cRt w k)))] := hl
  refine lv_aload_n E.1 E.2.1 dX2_countToBeClear_0 rfl (lv_at hl 0 rfl) ?_
  refine g_rt (v := .int (S 22 k 0)) E hP hV hw (by omega) 2 (by decide) gw_98 rfl dX2_countToBeClear_1 ?_
  refine lv_if_eq (tgt := 14) E.1 E.2.1 dX2_countToBeClear_4 (by decide) (fun c_4 => ?_) (fun c_4 => ?_)
  · refine lv_iconst (v := 1) E.1 E.2.1 dX2_countToBeClear_14 (by decide) ?_
    exact e_iP E hr hlk (by simp [toClearF, c_4]) dX2_countToBeClear_15
  · refine lv_aload_n E.1 E.2.1 dX2_countToBeClear_7 rfl (lv_at hl 0 rfl) ?_
    refine g_rt (v := .int (S 23 k 0)) E hP hV hw (by omega) 3 (by decide) gw_99 rfl dX2_countToBeClear_8 ?_
    refine lv_goto (tgt := 15) E.1 E.2.1 dX2_countToBeClear_11 (by decide) ?_
    exact e_iP E hr hlk (by simp [toClearF, c_4]) dX2_countToBeClear_15

abbrev rm_X2_hasBlock : Room := { frames := 1, cells := 0, slots := 0, locals := 21 }
theorem k_X2_hasBlock : Card yX2_hasBlock cX2_hasBlock 3 (some .boolean) 1 := ⟨gw_142, gw_30, by decide +kernel, by decide +kernel⟩
set_option maxHeartbeats 4000000 in
set_option maxRecDepth 20000 in
theorem c_X2_hasBlock (l : Launch) {Z : Gm} {V : Nat → St} {w : Nat} {S : St} (hV : V w = S) (hw : w < 2) {k : Nat} (hk : k < 16) (b : Int32) : Met l yX2_hasBlock (.code yX2_hasBlock cX2_hasBlock 3 (some .boolean) :: gG) rm_X2_hasBlock (PW Z V [.ref (ad Z (cRt w k)), .int b]) (QP (some (.int (b2i (hasBlockF S k b (S 23 k 0).toNatClampNeg))))) 0 0 (fun _ => False) := by
  refine met_of (by decide +kernel) (Nat.le_of_ble_eq_true rfl) ?_
  intro p e s m args below meth c ls E hr hlk hml hP hl
  have E : EE Z p s m args c cX2_hasBlock RX2 := E
  have hl : lv_has ls 3 [(0, .ref (ad Z (cRt w k))), (1, .int b)] := hl
  have h31 := clamp_lt31 (S 23 k 0)
  refine lv_iconst (v := 0) E.1 E.2.1 dX2_hasBlock_0 (by decide) ?_
  refine lv_istore_n (lv' := [(2, .int 0), (0, .ref (ad Z (cRt w k))), (1, .int b)]) E.1 E.2.1 dX2_hasBlock_1 rfl hl (by decide) rfl (fun ls hl => ?_)
  have loop_2 : ∀ (n_2 : Nat) (i : Nat), (S 23 k 0).toNatClampNeg - i < n_2 → (hasBlockF S k b i = false) → (i ≤ (S 23 k 0).toNatClampNeg) → ∀ (ls : Array Slot), lv_has ls 3 [(2, .int (nI i)), (0, .ref (ad Z (cRt w k))), (1, .int b)] → W p l e rm_X2_hasBlock s m args below meth c s.heap [] 0 0 (MQ below (QP (some (.int (b2i (hasBlockF S k b (S 23 k 0).toNatClampNeg))))) args s 0 0 (fun _ => False)) (F0 m 2 ls []) := by
    intro n_2
    induction n_2 with
    | zero => intro i hm_2; exact absurd hm_2 (by omega)
    | succ n_2 ih_2 =>
      intro i hm_2 ha hi  ls hl
      refine lv_iload_n E.1 E.2.1 dX2_hasBlock_2 rfl (lv_at hl 0 rfl) ?_
      refine lv_aload_n E.1 E.2.1 dX2_hasBlock_3 rfl (lv_at hl 1 rfl) ?_
      refine g_rt (v := .int (S 23 k 0)) E hP hV hw (by omega) 3 (by decide) gw_99 rfl dX2_hasBlock_4 ?_
      refine lv_icmp_ge (tgt := 27) E.1 E.2.1 dX2_hasBlock_7 (by decide) (fun c_7 => ?_) (fun c_7 => ?_)
      · have hd : (S 23 k 0).toNatClampNeg ≤ i := lq1 (by omega) c_7
        refine lv_iconst (v := 0) E.1 E.2.1 dX2_hasBlock_27 (by decide) ?_
        exact e_zP E hr hlk (by rw [← show i = (S 23 k 0).toNatClampNeg from by omega, ha]; rfl) (Or.inl rfl) dX2_hasBlock_28
      · have hd : i < (S 23 k 0).toNatClampNeg := lq2 (by omega) c_7
        refine lv_aload_n E.1 E.2.1 dX2_hasBlock_10 rfl (lv_at hl 1 rfl) ?_
        refine lv_iload_n E.1 E.2.1 dX2_hasBlock_11 rfl (lv_at hl 0 rfl) ?_
        refine go_Pi (run_V (rest := []) E hml hl.1 (c_X2_blockAt l  hV hw (by omega) (nI i)) k_X2_blockAt ⟨rfl, rfl, Nat.le_of_ble_eq_true rfl, Nat.le_of_ble_eq_true rfl⟩ gw_143 gw_127 gw_128 hP (rv_rt E hP hw (by omega)) rfl rfl (Nat.le_of_ble_eq_true rfl) ⟨Nat.zero_le _, Nat.zero_le _⟩ dX2_hasBlock_12) ?_
        refine lv_iload_n E.1 E.2.1 dX2_hasBlock_15 rfl (lv_at hl 2 rfl) ?_
        refine lv_icmp_ne (tgt := 21) E.1 E.2.1 dX2_hasBlock_16 (by decide) (fun c_16 => ?_) (fun c_16 => ?_)
        · refine lv_iinc (v := (nI (i + 1))) (lv' := [(2, .int (nI (i + 1))), (0, .ref (ad Z (cRt w k))), (1, .int b)]) E.1 E.2.1 dX2_hasBlock_21 hl (k := 0) rfl (nI_1 _) (by decide) rfl (fun ls hl => ?_)
          refine lv_goto (tgt := 2) E.1 E.2.1 dX2_hasBlock_24 (by decide) ?_
          exact ih_2 (i + 1) (by omega) (by simp [hasBlockF, ha, c_7, c_16]) (by omega)  ls (lv_sub hl [0, 1, 2] rfl)
        · refine lv_iconst (v := 1) E.1 E.2.1 dX2_hasBlock_19 (by decide) ?_
          exact e_zP E hr hlk (by rw [hasB_true (i := i) hd (of_decide_eq_true (by simp [c_16]))]; rfl) (Or.inr rfl) dX2_hasBlock_20
  exact loop_2 ((S 23 k 0).toNatClampNeg + 1) 0 (by omega) rfl (Nat.zero_le _)  _ (lv_sub hl [0, 1, 2] rfl)
end
section
/-! Line: the methods that only read. -/
theorem inUse_true {S : St} {x : Int32} {i n : Nat} (hi : i < n) (h : S 38 i 0 = x) : inUseF S x n = true := by
  induction n with
  | zero => omega
  | succ n ih =>
    rcases Nat.lt_or_ge i n with h1 | h1
    · simp [inUseF, ih h1]
    · have : i = n := by omega
      subst this
      simp [inUseF, h]
theorem fstL_in (S : St) (t : Int32) : ∀ n, fstL S t n = -1 ∨ ∃ j, j < n ∧ fstL S t n = nI j
  | 0 => Or.inl rfl
  | n + 1 => by
    have up : fstL S t n = -1 ∨ ∃ j, j < n + 1 ∧ fstL S t n = nI j := (fstL_in S t n).imp id fun ⟨j, h1, h2⟩ => ⟨j, by omega, h2⟩
    unfold fstL
    split
    · split
      · exact Or.inr ⟨n, by omega, rfl⟩
      · split
        · exact Or.inr ⟨n, by omega, rfl⟩
        · exact up
    · exact up
theorem fst_in {S : St} {t f : Int32} {n : Nat} (hn : n ≤ 8) (h : fstL S t n = f) (hf : ¬ f = -1) : vp_in f 8 := by
  subst h
  rcases fstL_in S t n with h | ⟨j, h1, h2⟩
  · exact absurd h hf
  · rw [h2]; exact vp_in_nI (by omega) (by omega)
abbrev rm_X1_tillOrNone : Room := { frames := 0, cells := 0, slots := 0, locals := 0 }
theorem k_X1_tillOrNone : Card yX1_tillOrNone cX1_tillOrNone 2 (some .int) 1 := ⟨gw_277, gw_12, by decide +kernel, by decide +kernel⟩
set_option maxHeartbeats 4000000 in
set_option maxRecDepth 20000 in
theorem c_X1_tillOrNone (l : Launch) {Z : Gm} {V : Nat → St} {w : Nat} {S : St} (hV : V w = S) (hw : w < 2) (t : Int32) : Met l yX1_tillOrNone (.code yX1_tillOrNone cX1_tillOrNone 2 (some .int) :: gG) rm_X1_tillOrNone (PW Z V [.ref (ad Z (cLn w)), .int t]) (QP (some (.int (tillF S t)))) 0 0 (fun _ => False) := by
  refine met_of (by decide +kernel) (Nat.le_of_ble_eq_true rfl) ?_
  intro p e s m args below meth c ls E hr hlk hml hP hl
  have E : EE Z p s m args c cX1_tillOrNone RX1 := E
  have hl : lv_has ls 2 [(0, .ref (ad Z (cLn w))), (1, .int t)] := hl
  refine lv_aload_n E.1 E.2.1 dX1_tillOrNone_0 rfl (lv_at hl 0 rfl) ?_
  refine g_ln (v := .int (S 9 0 0)) E hP hV hw 9 (by decide) gw_278 rfl dX1_tillOrNone_1 ?_
  refine lv_iload_n E.1 E.2.1 dX1_tillOrNone_4 rfl (lv_at hl 1 rfl) ?_
  refine lv_icmp_ge (tgt := 12) E.1 E.2.1 dX1_tillOrNone_5 (by decide) (fun c_5 => ?_) (fun c_5 => ?_)
  · refine lv_iconst (v := (-1)) E.1 E.2.1 dX1_tillOrNone_12 (by decide) ?_
    exact e_iP E hr hlk (by simp [tillF, c_5]) dX1_tillOrNone_13
  · refine lv_iload_n E.1 E.2.1 dX1_tillOrNone_8 rfl (lv_at hl 1 rfl) ?_
    refine lv_goto (tgt := 13) E.1 E.2.1 dX1_tillOrNone_9 (by decide) ?_
    exact e_iP E hr hlk (by simp [tillF, c_5]) dX1_tillOrNone_13

abbrev rm_X1_blockUnder : Room := { frames := 1, cells := 0, slots := 0, locals := 21 }
theorem k_X1_blockUnder : Card yX1_blockUnder cX1_blockUnder 3 (some .int) 1 := ⟨gw_296, gw_12, by decide +kernel, by decide +kernel⟩
set_option maxHeartbeats 4000000 in
set_option maxRecDepth 20000 in
theorem c_X1_blockUnder (l : Launch) {Z : Gm} {V : Nat → St} {w : Nat} {S : St} (hV : V w = S) (hw : w < 2) {i : Nat} (hi : i < 8) (hL : Lim S) : Met l yX1_blockUnder (.code yX1_blockUnder cX1_blockUnder 3 (some .int) :: gG) rm_X1_blockUnder (PW Z V [.ref (ad Z (cLn w)), .ref (ad Z (cTr w i))]) (QP (some (.int (underF S i)))) 0 0 (fun _ => False) := by
  refine met_of (by decide +kernel) (Nat.le_of_ble_eq_true rfl) ?_
  intro p e s m args below meth c ls E hr hlk hml hP hl
  have E : EE Z p s m args c cX1_blockUnder RX1 := E
  have hl : lv_has ls 3 [(0, .ref (ad Z (cLn w))), (1, .ref (ad Z (cTr w i)))] := hl
  have hT := hL.2.2
  have hR := hL.2.1
  have hB := hL.1
  refine lv_aload_n E.1 E.2.1 dX1_blockUnder_0 rfl (lv_at hl 1 rfl) ?_
  refine g_tr (v := .int (S 38 i 0)) E hP hV hw (by omega) 8 (by decide) gw_149 rfl dX1_blockUnder_1 ?_
  refine lv_if_lt (tgt := 22) E.1 E.2.1 dX1_blockUnder_4 (by decide) (fun c_4 => ?_) (fun c_4 => ?_)
  · refine lv_iconst (v := 0) E.1 E.2.1 dX1_blockUnder_22 (by decide) ?_
    refine lv_istore_n (lv' := [(2, .int 0), (0, .ref (ad Z (cLn w))), (1, .ref (ad Z (cTr w i)))]) E.1 E.2.1 dX1_blockUnder_23 rfl hl (by decide) rfl (fun ls hl => ?_)
    refine lv_iload_n E.1 E.2.1 dX1_blockUnder_24 rfl (lv_at hl 0 rfl) ?_
    refine lv_if_eq (tgt := 47) E.1 E.2.1 dX1_blockUnder_25 (by decide) (fun c_25 => ?_) (fun c_25 => ?_)
    · refine lv_iconst (v := (-1)) E.1 E.2.1 dX1_blockUnder_47 (by decide) ?_
      exact e_iP E hr hlk (by simp [underF, c_4]) dX1_blockUnder_48
    · exact absurd (by decide) c_25
  · refine lv_aload_n E.1 E.2.1 dX1_blockUnder_7 rfl (lv_at hl 1 rfl) ?_
    refine g_tr (v := .int (S 38 i 0)) E hP hV hw (by omega) 8 (by decide) gw_149 rfl dX1_blockUnder_8 ?_
    refine lv_aload_n E.1 E.2.1 dX1_blockUnder_11 rfl (lv_at hl 0 rfl) ?_
    refine g_ln (v := .int (S 4 0 0)) E hP hV hw 4 (by decide) gw_164 rfl dX1_blockUnder_12 ?_
    refine lv_icmp_ge (tgt := 22) E.1 E.2.1 dX1_blockUnder_15 (by decide) (fun c_15 => ?_) (fun c_15 => ?_)
    · refine lv_iconst (v := 0) E.1 E.2.1 dX1_blockUnder_22 (by decide) ?_
      refine lv_istore_n (lv' := [(2, .int 0), (0, .ref (ad Z (cLn w))), (1, .ref (ad Z (cTr w i)))]) E.1 E.2.1 dX1_blockUnder_23 rfl hl (by decide) rfl (fun ls hl => ?_)
      refine lv_iload_n E.1 E.2.1 dX1_blockUnder_24 rfl (lv_at hl 0 rfl) ?_
      refine lv_if_eq (tgt := 47) E.1 E.2.1 dX1_blockUnder_25 (by decide) (fun c_25 => ?_) (fun c_25 => ?_)
      · refine lv_iconst (v := (-1)) E.1 E.2.1 dX1_blockUnder_47 (by decide) ?_
        exact e_iP E hr hlk (by simp [underF, c_4, c_15]) dX1_blockUnder_48
      · exact absurd (by decide) c_25
    · refine lv_iconst (v := 1) E.1 E.2.1 dX1_blockUnder_18 (by decide) ?_
      refine lv_goto (tgt := 23) E.1 E.2.1 dX1_blockUnder_19 (by decide) ?_
      refine lv_istore_n (lv' := [(2, .int 1), (0, .ref (ad Z (cLn w))), (1, .ref (ad Z (cTr w i)))]) E.1 E.2.1 dX1_blockUnder_23 rfl hl (by decide) rfl (fun ls hl => ?_)
      refine lv_iload_n E.1 E.2.1 dX1_blockUnder_24 rfl (lv_at hl 0 rfl) ?_
      refine lv_if_eq (tgt := 47) E.1 E.2.1 dX1_blockUnder_25 (by decide) (fun c_25 => ?_) (fun c_25 => ?_)
      · exact absurd c_25 (by decide)
      · refine lv_aload_n E.1 E.2.1 dX1_blockUnder_28 rfl (lv_at hl 1 rfl) ?_
        refine g_ln E hP hV hw 3 (by decide) gw_23 rfl dX1_blockUnder_29 ?_
        refine lv_aload_n E.1 E.2.1 dX1_blockUnder_32 rfl (lv_at hl 2 rfl) ?_
        refine g_tr (v := .int (S 38 i 0)) E hP hV hw (by omega) 8 (by decide) gw_149 rfl dX1_blockUnder_33 ?_
        have hin_36 : vp_in (S 38 i 0) 16 := vin c_4 c_15 (clamp_le hR)
        refine a_rt (k := ((S 38 i 0).toNatClampNeg)) E hP hw rfl hin_36 dX1_blockUnder_36 ?_
        refine lv_aload_n E.1 E.2.1 dX1_blockUnder_37 rfl (lv_at hl 2 rfl) ?_
        refine g_tr (v := .int (S 39 i 0)) E hP hV hw (by omega) 9 (by decide) gw_297 rfl dX1_blockUnder_38 ?_
        refine go_Pi (run_V (rest := []) E hml hl.1 (c_X2_blockAt l  hV hw (vp_lt hin_36) (S 39 i 0)) k_X2_blockAt ⟨rfl, rfl, Nat.le_of_ble_eq_true rfl, Nat.le_of_ble_eq_true rfl⟩ gw_126 gw_127 gw_128 hP (rv_rt E hP hw (vp_lt hin_36)) rfl rfl (Nat.le_of_ble_eq_true rfl) ⟨Nat.zero_le _, Nat.zero_le _⟩ dX1_blockUnder_41) ?_
        refine lv_goto (tgt := 48) E.1 E.2.1 dX1_blockUnder_44 (by decide) ?_
        exact e_iP E hr hlk (by simp [underF, c_4, c_15]) dX1_blockUnder_48

abbrev rm_X1_isClearFor : Room := { frames := 0, cells := 0, slots := 0, locals := 0 }
theorem k_X1_isClearFor : Card yX1_isClearFor cX1_isClearFor 5 (some .boolean) 2 := ⟨gw_404, gw_12, by decide +kernel, by decide +kernel⟩
set_option maxHeartbeats 4000000 in
set_option maxRecDepth 20000 in
theorem c_X1_isClearFor (l : Launch) {Z : Gm} {V : Nat → St} {w : Nat} {S : St} (hV : V w = S) (hw : w < 2) (b n : Int32) (hL : Lim S) : Met l yX1_isClearFor (.code yX1_isClearFor cX1_isClearFor 5 (some .boolean) :: gG) rm_X1_isClearFor (PW Z V [.ref (ad Z (cLn w)), .int b, .int n]) (QP (some (.int (b2i (clearF S b n))))) 0 0 (fun _ => False) := by
  refine met_of (by decide +kernel) (Nat.le_of_ble_eq_true rfl) ?_
  intro p e s m args below meth c ls E hr hlk hml hP hl
  have E : EE Z p s m args c cX1_isClearFor RX1 := E
  have hl : lv_has ls 5 [(0, .ref (ad Z (cLn w))), (1, .int b), (2, .int n)] := hl
  have hT := hL.2.2
  have hR := hL.2.1
  have hB := hL.1
  refine lv_iload_n E.1 E.2.1 dX1_isClearFor_0 rfl (lv_at hl 1 rfl) ?_
  refine lv_if_lt (tgt := 12) E.1 E.2.1 dX1_isClearFor_1 (by decide) (fun c_1 => ?_) (fun c_1 => ?_)
  · refine lv_iconst (v := 0) E.1 E.2.1 dX1_isClearFor_12 (by decide) ?_
    exact e_zP E hr hlk (by simp [clearF, b2i, c_1]) (Or.inl rfl) dX1_isClearFor_13
  · refine lv_iload_n E.1 E.2.1 dX1_isClearFor_4 rfl (lv_at hl 1 rfl) ?_
    refine lv_aload_n E.1 E.2.1 dX1_isClearFor_5 rfl (lv_at hl 0 rfl) ?_
    refine g_ln (v := .int (S 2 0 0)) E hP hV hw 2 (by decide) gw_124 rfl dX1_isClearFor_6 ?_
    refine lv_icmp_lt (tgt := 14) E.1 E.2.1 dX1_isClearFor_9 (by decide) (fun c_9 => ?_) (fun c_9 => ?_)
    · refine lv_aload_n E.1 E.2.1 dX1_isClearFor_14 rfl (lv_at hl 0 rfl) ?_
      refine g_ln E hP hV hw 1 (by decide) gw_21 rfl dX1_isClearFor_15 ?_
      refine lv_iload_n E.1 E.2.1 dX1_isClearFor_18 rfl (lv_at hl 1 rfl) ?_
      have hin_19 : vp_in b 16 := vinL c_1 c_9 (clamp_le hB)
      refine a_bk (k := (b.toNatClampNeg)) E hP hw rfl hin_19 dX1_isClearFor_19 ?_
      refine lv_astore_n (lv' := [(3, .ref (ad Z (cBk w (b.toNatClampNeg)))), (0, .ref (ad Z (cLn w))), (1, .int b), (2, .int n)]) E.1 E.2.1 dX1_isClearFor_20 rfl hl (by decide) rfl (fun ls hl => ?_)
      refine lv_aload_n E.1 E.2.1 dX1_isClearFor_21 rfl (lv_at hl 0 rfl) ?_
      refine g_bk (v := .int (S 12 (b.toNatClampNeg) 0)) E hP hV hw (vp_lt hin_19) 2 (by decide) gw_405 rfl dX1_isClearFor_22 ?_
      refine lv_iconst (v := (-1)) E.1 E.2.1 dX1_isClearFor_25 (by decide) ?_
      refine lv_icmp_eq (tgt := 37) E.1 E.2.1 dX1_isClearFor_26 (by decide) (fun c_26 => ?_) (fun c_26 => ?_)
      · refine lv_iconst (v := 1) E.1 E.2.1 dX1_isClearFor_37 (by decide) ?_
        refine lv_goto (tgt := 42) E.1 E.2.1 dX1_isClearFor_38 (by decide) ?_
        refine lv_istore (lv' := [(4, .int 1), (3, .ref (ad Z (cBk w (b.toNatClampNeg)))), (0, .ref (ad Z (cLn w))), (1, .int b), (2, .int n)]) E.1 E.2.1 dX1_isClearFor_42 hl (by decide) rfl (fun ls hl => ?_)
        refine lv_aload_n E.1 E.2.1 dX1_isClearFor_44 rfl (lv_at hl 2 rfl) ?_
        refine g_ln (v := .int (S 9 0 0)) E hP hV hw 9 (by decide) gw_278 rfl dX1_isClearFor_45 ?_
        refine lv_aload_n E.1 E.2.1 dX1_isClearFor_48 rfl (lv_at hl 1 rfl) ?_
        refine g_bk (v := .int (S 13 (b.toNatClampNeg) 0)) E hP hV hw (vp_lt hin_19) 3 (by decide) gw_406 rfl dX1_isClearFor_49 ?_
        refine lv_icmp_lt (tgt := 72) E.1 E.2.1 dX1_isClearFor_52 (by decide) (fun c_52 => ?_) (fun c_52 => ?_)
        · refine lv_iconst (v := 0) E.1 E.2.1 dX1_isClearFor_72 (by decide) ?_
          exact e_zP E hr hlk (by simp [clearF, b2i, c_1, c_9, c_26, c_52]) (Or.inl rfl) dX1_isClearFor_73
        · refine lv_aload_n E.1 E.2.1 dX1_isClearFor_55 rfl (lv_at hl 1 rfl) ?_
          refine g_bk (v := .int (S 11 (b.toNatClampNeg) 0)) E hP hV hw (vp_lt hin_19) 1 (by decide) gw_389 rfl dX1_isClearFor_56 ?_
          refine lv_iconst (v := (-1)) E.1 E.2.1 dX1_isClearFor_59 (by decide) ?_
          refine lv_icmp_ne (tgt := 72) E.1 E.2.1 dX1_isClearFor_60 (by decide) (fun c_60 => ?_) (fun c_60 => ?_)
          · refine lv_iconst (v := 0) E.1 E.2.1 dX1_isClearFor_72 (by decide) ?_
            exact e_zP E hr hlk (by simp [clearF, b2i, c_1, c_9, c_26, c_52, c_60]) (Or.inl rfl) dX1_isClearFor_73
          · refine lv_iload E.1 E.2.1 dX1_isClearFor_63 (lv_at hl 0 rfl) ?_
            refine lv_if_eq (tgt := 72) E.1 E.2.1 dX1_isClearFor_65 (by decide) (fun c_65 => ?_) (fun c_65 => ?_)
            · exact absurd c_65 (by decide)
            · refine lv_iconst (v := 1) E.1 E.2.1 dX1_isClearFor_68 (by decide) ?_
              refine lv_goto (tgt := 73) E.1 E.2.1 dX1_isClearFor_69 (by decide) ?_
              exact e_zP E hr hlk (by simp [clearF, b2i, c_1, c_9, c_26, c_52, c_60]) (Or.inr rfl) dX1_isClearFor_73
      · refine lv_aload_n E.1 E.2.1 dX1_isClearFor_29 rfl (lv_at hl 0 rfl) ?_
        refine g_bk (v := .int (S 12 (b.toNatClampNeg) 0)) E hP hV hw (vp_lt hin_19) 2 (by decide) gw_405 rfl dX1_isClearFor_30 ?_
        refine lv_iload_n E.1 E.2.1 dX1_isClearFor_33 rfl (lv_at hl 3 rfl) ?_
        refine lv_icmp_ne (tgt := 41) E.1 E.2.1 dX1_isClearFor_34 (by decide) (fun c_34 => ?_) (fun c_34 => ?_)
        · refine lv_iconst (v := 0) E.1 E.2.1 dX1_isClearFor_41 (by decide) ?_
          refine lv_istore (lv' := [(4, .int 0), (3, .ref (ad Z (cBk w (b.toNatClampNeg)))), (0, .ref (ad Z (cLn w))), (1, .int b), (2, .int n)]) E.1 E.2.1 dX1_isClearFor_42 hl (by decide) rfl (fun ls hl => ?_)
          refine lv_aload_n E.1 E.2.1 dX1_isClearFor_44 rfl (lv_at hl 2 rfl) ?_
          refine g_ln (v := .int (S 9 0 0)) E hP hV hw 9 (by decide) gw_278 rfl dX1_isClearFor_45 ?_
          refine lv_aload_n E.1 E.2.1 dX1_isClearFor_48 rfl (lv_at hl 1 rfl) ?_
          refine g_bk (v := .int (S 13 (b.toNatClampNeg) 0)) E hP hV hw (vp_lt hin_19) 3 (by decide) gw_406 rfl dX1_isClearFor_49 ?_
          refine lv_icmp_lt (tgt := 72) E.1 E.2.1 dX1_isClearFor_52 (by decide) (fun c_52 => ?_) (fun c_52 => ?_)
          · refine lv_iconst (v := 0) E.1 E.2.1 dX1_isClearFor_72 (by decide) ?_
            exact e_zP E hr hlk (by simp [clearF, b2i, c_1, c_9, c_26, c_34, c_52]) (Or.inl rfl) dX1_isClearFor_73
          · refine lv_aload_n E.1 E.2.1 dX1_isClearFor_55 rfl (lv_at hl 1 rfl) ?_
            refine g_bk (v := .int (S 11 (b.toNatClampNeg) 0)) E hP hV hw (vp_lt hin_19) 1 (by decide) gw_389 rfl dX1_isClearFor_56 ?_
            refine lv_iconst (v := (-1)) E.1 E.2.1 dX1_isClearFor_59 (by decide) ?_
            refine lv_icmp_ne (tgt := 72) E.1 E.2.1 dX1_isClearFor_60 (by decide) (fun c_60 => ?_) (fun c_60 => ?_)
            · refine lv_iconst (v := 0) E.1 E.2.1 dX1_isClearFor_72 (by decide) ?_
              exact e_zP E hr hlk (by simp [clearF, b2i, c_1, c_9, c_26, c_34, c_52, c_60]) (Or.inl rfl) dX1_isClearFor_73
            · refine lv_iload E.1 E.2.1 dX1_isClearFor_63 (lv_at hl 0 rfl) ?_
              refine lv_if_eq (tgt := 72) E.1 E.2.1 dX1_isClearFor_65 (by decide) (fun c_65 => ?_) (fun c_65 => ?_)
              · refine lv_iconst (v := 0) E.1 E.2.1 dX1_isClearFor_72 (by decide) ?_
                exact e_zP E hr hlk (by simp [clearF, b2i, c_1, c_9, c_26, c_34, c_52, c_60]) (Or.inl rfl) dX1_isClearFor_73
              · exact absurd (by decide) c_65
        · refine lv_iconst (v := 1) E.1 E.2.1 dX1_isClearFor_37 (by decide) ?_
          refine lv_goto (tgt := 42) E.1 E.2.1 dX1_isClearFor_38 (by decide) ?_
          refine lv_istore (lv' := [(4, .int 1), (3, .ref (ad Z (cBk w (b.toNatClampNeg)))), (0, .ref (ad Z (cLn w))), (1, .int b), (2, .int n)]) E.1 E.2.1 dX1_isClearFor_42 hl (by decide) rfl (fun ls hl => ?_)
          refine lv_aload_n E.1 E.2.1 dX1_isClearFor_44 rfl (lv_at hl 2 rfl) ?_
          refine g_ln (v := .int (S 9 0 0)) E hP hV hw 9 (by decide) gw_278 rfl dX1_isClearFor_45 ?_
          refine lv_aload_n E.1 E.2.1 dX1_isClearFor_48 rfl (lv_at hl 1 rfl) ?_
          refine g_bk (v := .int (S 13 (b.toNatClampNeg) 0)) E hP hV hw (vp_lt hin_19) 3 (by decide) gw_406 rfl dX1_isClearFor_49 ?_
          refine lv_icmp_lt (tgt := 72) E.1 E.2.1 dX1_isClearFor_52 (by decide) (fun c_52 => ?_) (fun c_52 => ?_)
          · refine lv_iconst (v := 0) E.1 E.2.1 dX1_isClearFor_72 (by decide) ?_
            exact e_zP E hr hlk (by simp [clearF, b2i, c_1, c_9, c_26, c_34, c_52]) (Or.inl rfl) dX1_isClearFor_73
          · refine lv_aload_n E.1 E.2.1 dX1_isClearFor_55 rfl (lv_at hl 1 rfl) ?_
            refine g_bk (v := .int (S 11 (b.toNatClampNeg) 0)) E hP hV hw (vp_lt hin_19) 1 (by decide) gw_389 rfl dX1_isClearFor_56 ?_
            refine lv_iconst (v := (-1)) E.1 E.2.1 dX1_isClearFor_59 (by decide) ?_
            refine lv_icmp_ne (tgt := 72) E.1 E.2.1 dX1_isClearFor_60 (by decide) (fun c_60 => ?_) (fun c_60 => ?_)
            · refine lv_iconst (v := 0) E.1 E.2.1 dX1_isClearFor_72 (by decide) ?_
              exact e_zP E hr hlk (by simp [clearF, b2i, c_1, c_9, c_26, c_34, c_52, c_60]) (Or.inl rfl) dX1_isClearFor_73
            · refine lv_iload E.1 E.2.1 dX1_isClearFor_63 (lv_at hl 0 rfl) ?_
              refine lv_if_eq (tgt := 72) E.1 E.2.1 dX1_isClearFor_65 (by decide) (fun c_65 => ?_) (fun c_65 => ?_)
              · exact absurd c_65 (by decide)
              · refine lv_iconst (v := 1) E.1 E.2.1 dX1_isClearFor_68 (by decide) ?_
                refine lv_goto (tgt := 73) E.1 E.2.1 dX1_isClearFor_69 (by decide) ?_
                exact e_zP E hr hlk (by simp [clearF, b2i, c_1, c_9, c_26, c_34, c_52, c_60]) (Or.inr rfl) dX1_isClearFor_73
    · refine lv_iconst (v := 0) E.1 E.2.1 dX1_isClearFor_12 (by decide) ?_
      exact e_zP E hr hlk (by simp [clearF, b2i, c_1, c_9]) (Or.inl rfl) dX1_isClearFor_13

abbrev rm_X1_trainInTheWay : Room := { frames := 0, cells := 0, slots := 0, locals := 0 }
theorem k_X1_trainInTheWay : Card yX1_trainInTheWay cX1_trainInTheWay 4 (some .int) 2 := ⟨gw_415, gw_12, by decide +kernel, by decide +kernel⟩
set_option maxHeartbeats 4000000 in
set_option maxRecDepth 20000 in
theorem c_X1_trainInTheWay (l : Launch) {Z : Gm} {V : Nat → St} {w : Nat} {S : St} (hV : V w = S) (hw : w < 2) (b n : Int32) (hL : Lim S) : Met l yX1_trainInTheWay (.code yX1_trainInTheWay cX1_trainInTheWay 4 (some .int) :: gG) rm_X1_trainInTheWay (PW Z V [.ref (ad Z (cLn w)), .int b, .int n]) (QP (some (.int (inWayF S b n)))) 0 0 (fun _ => False) := by
  refine met_of (by decide +kernel) (Nat.le_of_ble_eq_true rfl) ?_
  intro p e s m args below meth c ls E hr hlk hml hP hl
  have E : EE Z p s m args c cX1_trainInTheWay RX1 := E
  have hl : lv_has ls 4 [(0, .ref (ad Z (cLn w))), (1, .int b), (2, .int n)] := hl
  have hT := hL.2.2
  have hR := hL.2.1
  have hB := hL.1
  refine lv_iload_n E.1 E.2.1 dX1_trainInTheWay_0 rfl (lv_at hl 1 rfl) ?_
  refine lv_if_lt (tgt := 12) E.1 E.2.1 dX1_trainInTheWay_1 (by decide) (fun c_1 => ?_) (fun c_1 => ?_)
  · refine lv_iconst (v := (-1)) E.1 E.2.1 dX1_trainInTheWay_12 (by decide) ?_
    exact e_iP E hr hlk (by simp [inWayF, c_1]) dX1_trainInTheWay_13
  · refine lv_iload_n E.1 E.2.1 dX1_trainInTheWay_4 rfl (lv_at hl 1 rfl) ?_
    refine lv_aload_n E.1 E.2.1 dX1_trainInTheWay_5 rfl (lv_at hl 0 rfl) ?_
    refine g_ln (v := .int (S 2 0 0)) E hP hV hw 2 (by decide) gw_124 rfl dX1_trainInTheWay_6 ?_
    refine lv_icmp_lt (tgt := 14) E.1 E.2.1 dX1_trainInTheWay_9 (by decide) (fun c_9 => ?_) (fun c_9 => ?_)
    · refine lv_aload_n E.1 E.2.1 dX1_trainInTheWay_14 rfl (lv_at hl 0 rfl) ?_
      refine g_ln E hP hV hw 1 (by decide) gw_21 rfl dX1_trainInTheWay_15 ?_
      refine lv_iload_n E.1 E.2.1 dX1_trainInTheWay_18 rfl (lv_at hl 1 rfl) ?_
      have hin_19 : vp_in b 16 := vinL c_1 c_9 (clamp_le hB)
      refine a_bk (k := (b.toNatClampNeg)) E hP hw rfl hin_19 dX1_trainInTheWay_19 ?_
      refine lv_astore_n (lv' := [(3, .ref (ad Z (cBk w (b.toNatClampNeg)))), (0, .ref (ad Z (cLn w))), (1, .int b), (2, .int n)]) E.1 E.2.1 dX1_trainInTheWay_20 rfl hl (by decide) rfl (fun ls hl => ?_)
      refine lv_aload_n E.1 E.2.1 dX1_trainInTheWay_21 rfl (lv_at hl 0 rfl) ?_
      refine g_bk (v := .int (S 11 (b.toNatClampNeg) 0)) E hP hV hw (vp_lt hin_19) 1 (by decide) gw_389 rfl dX1_trainInTheWay_22 ?_
      refine lv_iconst (v := (-1)) E.1 E.2.1 dX1_trainInTheWay_25 (by decide) ?_
      refine lv_icmp_eq (tgt := 34) E.1 E.2.1 dX1_trainInTheWay_26 (by decide) (fun c_26 => ?_) (fun c_26 => ?_)
      · refine lv_aload_n E.1 E.2.1 dX1_trainInTheWay_34 rfl (lv_at hl 0 rfl) ?_
        refine g_bk (v := .int (S 12 (b.toNatClampNeg) 0)) E hP hV hw (vp_lt hin_19) 2 (by decide) gw_405 rfl dX1_trainInTheWay_35 ?_
        refine lv_iload_n E.1 E.2.1 dX1_trainInTheWay_38 rfl (lv_at hl 3 rfl) ?_
        refine lv_icmp_ne (tgt := 46) E.1 E.2.1 dX1_trainInTheWay_39 (by decide) (fun c_39 => ?_) (fun c_39 => ?_)
        · refine lv_aload_n E.1 E.2.1 dX1_trainInTheWay_46 rfl (lv_at hl 0 rfl) ?_
          refine g_bk (v := .int (S 12 (b.toNatClampNeg) 0)) E hP hV hw (vp_lt hin_19) 2 (by decide) gw_405 rfl dX1_trainInTheWay_47 ?_
          exact e_iP E hr hlk (by simp [inWayF, c_1, c_9, c_26, c_39]) dX1_trainInTheWay_50
        · refine lv_iconst (v := (-1)) E.1 E.2.1 dX1_trainInTheWay_42 (by decide) ?_
          refine lv_goto (tgt := 50) E.1 E.2.1 dX1_trainInTheWay_43 (by decide) ?_
          exact e_iP E hr hlk (by simp [inWayF, c_1, c_9, c_26, c_39]) dX1_trainInTheWay_50
      · refine lv_aload_n E.1 E.2.1 dX1_trainInTheWay_29 rfl (lv_at hl 0 rfl) ?_
        refine g_bk (v := .int (S 11 (b.toNatClampNeg) 0)) E hP hV hw (vp_lt hin_19) 1 (by decide) gw_389 rfl dX1_trainInTheWay_30 ?_
        exact e_iP E hr hlk (by simp [inWayF, c_1, c_9, c_26]) dX1_trainInTheWay_33
    · refine lv_iconst (v := (-1)) E.1 E.2.1 dX1_trainInTheWay_12 (by decide) ?_
      exact e_iP E hr hlk (by simp [inWayF, c_1, c_9]) dX1_trainInTheWay_13

abbrev rm_X1_countAt : Room := { frames := 0, cells := 0, slots := 0, locals := 0 }
theorem k_X1_countAt : Card yX1_countAt cX1_countAt 4 (some .int) 1 := ⟨gw_158, gw_12, by decide +kernel, by decide +kernel⟩
set_option maxHeartbeats 4000000 in
set_option maxRecDepth 20000 in
theorem c_X1_countAt (l : Launch) {Z : Gm} {V : Nat → St} {w : Nat} {S : St} (hV : V w = S) (hw : w < 2) (x : Int32) (hL : Lim S) : Met l yX1_countAt (.code yX1_countAt cX1_countAt 4 (some .int) :: gG) rm_X1_countAt (PW Z V [.ref (ad Z (cLn w)), .int x]) (QP (some (.int (nI (cntTo (atQ S x) (nT S)))))) 0 0 (fun _ => False) := by
  refine met_of (by decide +kernel) (Nat.le_of_ble_eq_true rfl) ?_
  intro p e s m args below meth c ls E hr hlk hml hP hl
  have E : EE Z p s m args c cX1_countAt RX1 := E
  have hl : lv_has ls 4 [(0, .ref (ad Z (cLn w))), (1, .int x)] := hl
  have hT := hL.2.2
  have hR := hL.2.1
  have hB := hL.1
  refine lv_iconst (v := 0) E.1 E.2.1 dX1_countAt_0 (by decide) ?_
  refine lv_istore_n (lv' := [(2, .int 0), (0, .ref (ad Z (cLn w))), (1, .int x)]) E.1 E.2.1 dX1_countAt_1 rfl hl (by decide) rfl (fun ls hl => ?_)
  refine lv_iconst (v := 0) E.1 E.2.1 dX1_countAt_2 (by decide) ?_
  refine lv_istore_n (lv' := [(3, .int 0), (2, .int 0), (0, .ref (ad Z (cLn w))), (1, .int x)]) E.1 E.2.1 dX1_countAt_3 rfl hl (by decide) rfl (fun ls hl => ?_)
  have loop_4 : ∀ (n_4 : Nat) (i : Nat) (a : Int32), nT S - i < n_4 → (a = nI (cntTo (atQ S x) i)) → (i ≤ nT S) → ∀ (ls : Array Slot), lv_has ls 4 [(3, .int (nI i)), (2, .int a), (0, .ref (ad Z (cLn w))), (1, .int x)] → W p l e rm_X1_countAt s m args below meth c s.heap [] 0 0 (MQ below (QP (some (.int (nI (cntTo (atQ S x) (nT S)))))) args s 0 0 (fun _ => False)) (F0 m 4 ls []) := by
    intro n_4
    induction n_4 with
    | zero => intro i a hm_4; exact absurd hm_4 (by omega)
    | succ n_4 ih_4 =>
      intro i a hm_4 ha hi  ls hl
      refine lv_iload_n E.1 E.2.1 dX1_countAt_4 rfl (lv_at hl 0 rfl) ?_
      refine lv_aload_n E.1 E.2.1 dX1_countAt_5 rfl (lv_at hl 2 rfl) ?_
      refine g_ln (v := .int (S 6 0 0)) E hP hV hw 6 (by decide) gw_148 rfl dX1_countAt_6 ?_
      refine lv_icmp_ge (tgt := 34) E.1 E.2.1 dX1_countAt_9 (by decide) (fun c_9 => ?_) (fun c_9 => ?_)
      · have hd : nT S ≤ i := lq1 (by omega) c_9
        refine lv_iload_n E.1 E.2.1 dX1_countAt_34 rfl (lv_at hl 1 rfl) ?_
        exact e_iP E hr hlk (by rw [ha, show i = nT S from by omega]) dX1_countAt_35
      · have hd : i < nT S := lq2 (by omega) c_9
        refine lv_aload_n E.1 E.2.1 dX1_countAt_12 rfl (lv_at hl 2 rfl) ?_
        refine g_ln E hP hV hw 5 (by decide) gw_25 rfl dX1_countAt_13 ?_
        refine lv_iload_n E.1 E.2.1 dX1_countAt_16 rfl (lv_at hl 0 rfl) ?_
        refine a_tr (k := i) E hP hw (nI_clamp (by omega)) (vp_in_nI (by omega) (by omega)) dX1_countAt_17 ?_
        refine g_tr (v := .int (S 36 i 0)) E hP hV hw (by omega) 6 (by decide) gw_159 rfl dX1_countAt_18 ?_
        refine lv_iload_n E.1 E.2.1 dX1_countAt_21 rfl (lv_at hl 3 rfl) ?_
        refine lv_icmp_ne (tgt := 28) E.1 E.2.1 dX1_countAt_22 (by decide) (fun c_22 => ?_) (fun c_22 => ?_)
        · refine lv_iinc (v := (nI (i + 1))) (lv' := [(3, .int (nI (i + 1))), (2, .int a), (0, .ref (ad Z (cLn w))), (1, .int x)]) E.1 E.2.1 dX1_countAt_28 hl (k := 0) rfl (nI_1 _) (by decide) rfl (fun ls hl => ?_)
          refine lv_goto (tgt := 4) E.1 E.2.1 dX1_countAt_31 (by decide) ?_
          exact ih_4 (i + 1) _ (by omega) (by rw [ha]; simp [cntTo, nI_1, atQ, c_9, c_22]) (by omega)  ls (lv_sub hl [0, 1, 2, 3] rfl)
        · refine lv_iinc (v := (a + 1)) (lv' := [(2, .int (a + 1)), (3, .int (nI i)), (0, .ref (ad Z (cLn w))), (1, .int x)]) E.1 E.2.1 dX1_countAt_25 hl (k := 1) rfl rfl (by decide) rfl (fun ls hl => ?_)
          refine lv_iinc (v := (nI (i + 1))) (lv' := [(3, .int (nI (i + 1))), (2, .int (a + 1)), (0, .ref (ad Z (cLn w))), (1, .int x)]) E.1 E.2.1 dX1_countAt_28 hl (k := 1) rfl (nI_1 _) (by decide) rfl (fun ls hl => ?_)
          refine lv_goto (tgt := 4) E.1 E.2.1 dX1_countAt_31 (by decide) ?_
          exact ih_4 (i + 1) _ (by omega) (by rw [ha]; simp [cntTo, nI_1, atQ, c_9, c_22]) (by omega)  ls (lv_sub hl [0, 1, 2, 3] rfl)
  exact loop_4 (nT S + 1) 0 _ (by omega) rfl (Nat.zero_le _)  _ (lv_sub hl [0, 1, 2, 3] rfl)

abbrev rm_X1_countOnTheWayTo : Room := { frames := 0, cells := 0, slots := 0, locals := 0 }
theorem k_X1_countOnTheWayTo : Card yX1_countOnTheWayTo cX1_countOnTheWayTo 5 (some .int) 1 := ⟨gw_163, gw_12, by decide +kernel, by decide +kernel⟩
set_option maxHeartbeats 4000000 in
set_option maxRecDepth 20000 in
theorem c_X1_countOnTheWayTo (l : Launch) {Z : Gm} {V : Nat → St} {w : Nat} {S : St} (hV : V w = S) (hw : w < 2) (x : Int32) (hL : Lim S) : Met l yX1_countOnTheWayTo (.code yX1_countOnTheWayTo cX1_countOnTheWayTo 5 (some .int) :: gG) rm_X1_countOnTheWayTo (PW Z V [.ref (ad Z (cLn w)), .int x]) (QP (some (.int (nI (cntTo (wayQ S x) (nT S)))))) 0 0 (fun _ => False) := by
  refine met_of (by decide +kernel) (Nat.le_of_ble_eq_true rfl) ?_
  intro p e s m args below meth c ls E hr hlk hml hP hl
  have E : EE Z p s m args c cX1_countOnTheWayTo RX1 := E
  have hl : lv_has ls 5 [(0, .ref (ad Z (cLn w))), (1, .int x)] := hl
  have hT := hL.2.2
  have hR := hL.2.1
  have hB := hL.1
  refine lv_iconst (v := 0) E.1 E.2.1 dX1_countOnTheWayTo_0 (by decide) ?_
  refine lv_istore_n (lv' := [(2, .int 0), (0, .ref (ad Z (cLn w))), (1, .int x)]) E.1 E.2.1 dX1_countOnTheWayTo_1 rfl hl (by decide) rfl (fun ls hl => ?_)
  refine lv_iconst (v := 0) E.1 E.2.1 dX1_countOnTheWayTo_2 (by decide) ?_
  refine lv_istore_n (lv' := [(3, .int 0), (2, .int 0), (0, .ref (ad Z (cLn w))), (1, .int x)]) E.1 E.2.1 dX1_countOnTheWayTo_3 rfl hl (by decide) rfl (fun ls hl => ?_)
  have loop_4 : ∀ (n_4 : Nat) (i : Nat) (a : Int32), nT S - i < n_4 → (a = nI (cntTo (wayQ S x) i)) → (i ≤ nT S) → ∀ (ls : Array Slot), lv_has ls 5 [(3, .int (nI i)), (2, .int a), (0, .ref (ad Z (cLn w))), (1, .int x)] → W p l e rm_X1_countOnTheWayTo s m args below meth c s.heap [] 0 0 (MQ below (QP (some (.int (nI (cntTo (wayQ S x) (nT S)))))) args s 0 0 (fun _ => False)) (F0 m 4 ls []) := by
    intro n_4
    induction n_4 with
    | zero => intro i a hm_4; exact absurd hm_4 (by omega)
    | succ n_4 ih_4 =>
      intro i a hm_4 ha hi  ls hl
      refine lv_iload_n E.1 E.2.1 dX1_countOnTheWayTo_4 rfl (lv_at hl 0 rfl) ?_
      refine lv_aload_n E.1 E.2.1 dX1_countOnTheWayTo_5 rfl (lv_at hl 2 rfl) ?_
      refine g_ln (v := .int (S 6 0 0)) E hP hV hw 6 (by decide) gw_148 rfl dX1_countOnTheWayTo_6 ?_
      refine lv_icmp_ge (tgt := 60) E.1 E.2.1 dX1_countOnTheWayTo_9 (by decide) (fun c_9 => ?_) (fun c_9 => ?_)
      · have hd : nT S ≤ i := lq1 (by omega) c_9
        refine lv_iload_n E.1 E.2.1 dX1_countOnTheWayTo_60 rfl (lv_at hl 1 rfl) ?_
        exact e_iP E hr hlk (by rw [ha, show i = nT S from by omega]) dX1_countOnTheWayTo_61
      · have hd : i < nT S := lq2 (by omega) c_9
        refine lv_aload_n E.1 E.2.1 dX1_countOnTheWayTo_12 rfl (lv_at hl 2 rfl) ?_
        refine g_ln E hP hV hw 5 (by decide) gw_25 rfl dX1_countOnTheWayTo_13 ?_
        refine lv_iload_n E.1 E.2.1 dX1_countOnTheWayTo_16 rfl (lv_at hl 0 rfl) ?_
        refine a_tr (k := i) E hP hw (nI_clamp (by omega)) (vp_in_nI (by omega) (by omega)) dX1_countOnTheWayTo_17 ?_
        refine g_tr (v := .int (S 38 i 0)) E hP hV hw (by omega) 8 (by decide) gw_149 rfl dX1_countOnTheWayTo_18 ?_
        refine lv_istore (lv' := [(4, .int (S 38 i 0)), (3, .int (nI i)), (2, .int a), (0, .ref (ad Z (cLn w))), (1, .int x)]) E.1 E.2.1 dX1_countOnTheWayTo_21 hl (by decide) rfl (fun ls hl => ?_)
        refine lv_iload E.1 E.2.1 dX1_countOnTheWayTo_23 (lv_at hl 0 rfl) ?_
        refine lv_if_lt (tgt := 54) E.1 E.2.1 dX1_countOnTheWayTo_25 (by decide) (fun c_25 => ?_) (fun c_25 => ?_)
        · refine lv_iinc (v := (nI (i + 1))) (lv' := [(3, .int (nI (i + 1))), (4, .int (S 38 i 0)), (2, .int a), (0, .ref (ad Z (cLn w))), (1, .int x)]) E.1 E.2.1 dX1_countOnTheWayTo_54 hl (k := 1) rfl (nI_1 _) (by decide) rfl (fun ls hl => ?_)
          refine lv_goto (tgt := 4) E.1 E.2.1 dX1_countOnTheWayTo_57 (by decide) ?_
          exact ih_4 (i + 1) _ (by omega) (by rw [ha]; simp [cntTo, nI_1, wayQ, c_9, c_25]) (by omega)  ls (lv_sub hl [0, 2, 3, 4] rfl)
        · refine lv_iload E.1 E.2.1 dX1_countOnTheWayTo_28 (lv_at hl 0 rfl) ?_
          refine lv_aload_n E.1 E.2.1 dX1_countOnTheWayTo_30 rfl (lv_at hl 3 rfl) ?_
          refine g_ln (v := .int (S 4 0 0)) E hP hV hw 4 (by decide) gw_164 rfl dX1_countOnTheWayTo_31 ?_
          refine lv_icmp_ge (tgt := 54) E.1 E.2.1 dX1_countOnTheWayTo_34 (by decide) (fun c_34 => ?_) (fun c_34 => ?_)
          · refine lv_iinc (v := (nI (i + 1))) (lv' := [(3, .int (nI (i + 1))), (4, .int (S 38 i 0)), (2, .int a), (0, .ref (ad Z (cLn w))), (1, .int x)]) E.1 E.2.1 dX1_countOnTheWayTo_54 hl (k := 1) rfl (nI_1 _) (by decide) rfl (fun ls hl => ?_)
            refine lv_goto (tgt := 4) E.1 E.2.1 dX1_countOnTheWayTo_57 (by decide) ?_
            exact ih_4 (i + 1) _ (by omega) (by rw [ha]; simp [cntTo, nI_1, wayQ, c_9, c_25, c_34]) (by omega)  ls (lv_sub hl [0, 2, 3, 4] rfl)
          · refine lv_aload_n E.1 E.2.1 dX1_countOnTheWayTo_37 rfl (lv_at hl 3 rfl) ?_
            refine g_ln E hP hV hw 3 (by decide) gw_23 rfl dX1_countOnTheWayTo_38 ?_
            refine lv_iload E.1 E.2.1 dX1_countOnTheWayTo_41 (lv_at hl 0 rfl) ?_
            have hin_43 : vp_in (S 38 i 0) 16 := vin c_25 c_34 (clamp_le hR)
            refine a_rt (k := ((S 38 i 0).toNatClampNeg)) E hP hw rfl hin_43 dX1_countOnTheWayTo_43 ?_
            refine g_rt (v := .int (S 21 ((S 38 i 0).toNatClampNeg) 0)) E hP hV hw (vp_lt hin_43) 1 (by decide) gw_165 rfl dX1_countOnTheWayTo_44 ?_
            refine lv_iload_n E.1 E.2.1 dX1_countOnTheWayTo_47 rfl (lv_at hl 4 rfl) ?_
            refine lv_icmp_ne (tgt := 54) E.1 E.2.1 dX1_countOnTheWayTo_48 (by decide) (fun c_48 => ?_) (fun c_48 => ?_)
            · refine lv_iinc (v := (nI (i + 1))) (lv' := [(3, .int (nI (i + 1))), (4, .int (S 38 i 0)), (2, .int a), (0, .ref (ad Z (cLn w))), (1, .int x)]) E.1 E.2.1 dX1_countOnTheWayTo_54 hl (k := 1) rfl (nI_1 _) (by decide) rfl (fun ls hl => ?_)
              refine lv_goto (tgt := 4) E.1 E.2.1 dX1_countOnTheWayTo_57 (by decide) ?_
              exact ih_4 (i + 1) _ (by omega) (by rw [ha]; simp [cntTo, nI_1, wayQ, c_9, c_25, c_34, c_48]) (by omega)  ls (lv_sub hl [0, 2, 3, 4] rfl)
            · refine lv_iinc (v := (a + 1)) (lv' := [(2, .int (a + 1)), (4, .int (S 38 i 0)), (3, .int (nI i)), (0, .ref (ad Z (cLn w))), (1, .int x)]) E.1 E.2.1 dX1_countOnTheWayTo_51 hl (k := 2) rfl rfl (by decide) rfl (fun ls hl => ?_)
              refine lv_iinc (v := (nI (i + 1))) (lv' := [(3, .int (nI (i + 1))), (2, .int (a + 1)), (4, .int (S 38 i 0)), (0, .ref (ad Z (cLn w))), (1, .int x)]) E.1 E.2.1 dX1_countOnTheWayTo_54 hl (k := 2) rfl (nI_1 _) (by decide) rfl (fun ls hl => ?_)
              refine lv_goto (tgt := 4) E.1 E.2.1 dX1_countOnTheWayTo_57 (by decide) ?_
              exact ih_4 (i + 1) _ (by omega) (by rw [ha]; simp [cntTo, nI_1, wayQ, c_9, c_25, c_34, c_48]) (by omega)  ls (lv_sub hl [0, 1, 3, 4] rfl)
  exact loop_4 (nT S + 1) 0 _ (by omega) rfl (Nat.zero_le _)  _ (lv_sub hl [0, 1, 2, 3] rfl)

abbrev rm_X1_countDone : Room := { frames := 1, cells := 0, slots := 0, locals := 20 }
theorem k_X1_countDone : Card yX1_countDone cX1_countDone 3 (some .int) 0 := ⟨gw_239, gw_12, by decide +kernel, by decide +kernel⟩
set_option maxHeartbeats 4000000 in
set_option maxRecDepth 20000 in
theorem c_X1_countDone (l : Launch) {Z : Gm} {V : Nat → St} {w : Nat} {S : St} (hV : V w = S) (hw : w < 2) (hL : Lim S) : Met l yX1_countDone (.code yX1_countDone cX1_countDone 3 (some .int) :: gG) rm_X1_countDone (PW Z V [.ref (ad Z (cLn w))]) (QP (some (.int (nI (cntTo (doneF S) (nT S)))))) 0 0 (fun _ => False) := by
  refine met_of (by decide +kernel) (Nat.le_of_ble_eq_true rfl) ?_
  intro p e s m args below meth c ls E hr hlk hml hP hl
  have E : EE Z p s m args c cX1_countDone RX1 := E
  have hl : lv_has ls 3 [(0, .ref (ad Z (cLn w)))] := hl
  have hT := hL.2.2
  have hR := hL.2.1
  have hB := hL.1
  refine lv_iconst (v := 0) E.1 E.2.1 dX1_countDone_0 (by decide) ?_
  refine lv_istore_n (lv' := [(1, .int 0), (0, .ref (ad Z (cLn w)))]) E.1 E.2.1 dX1_countDone_1 rfl hl (by decide) rfl (fun ls hl => ?_)
  refine lv_iconst (v := 0) E.1 E.2.1 dX1_countDone_2 (by decide) ?_
  refine lv_istore_n (lv' := [(2, .int 0), (1, .int 0), (0, .ref (ad Z (cLn w)))]) E.1 E.2.1 dX1_countDone_3 rfl hl (by decide) rfl (fun ls hl => ?_)
  have loop_4 : ∀ (n_4 : Nat) (i : Nat) (a : Int32), nT S - i < n_4 → (a = nI (cntTo (doneF S) i)) → (i ≤ nT S) → ∀ (ls : Array Slot), lv_has ls 3 [(2, .int (nI i)), (1, .int a), (0, .ref (ad Z (cLn w)))] → W p l e rm_X1_countDone s m args below meth c s.heap [] 0 0 (MQ below (QP (some (.int (nI (cntTo (doneF S) (nT S)))))) args s 0 0 (fun _ => False)) (F0 m 4 ls []) := by
    intro n_4
    induction n_4 with
    | zero => intro i a hm_4; exact absurd hm_4 (by omega)
    | succ n_4 ih_4 =>
      intro i a hm_4 ha hi  ls hl
      refine lv_iload_n E.1 E.2.1 dX1_countDone_4 rfl (lv_at hl 0 rfl) ?_
      refine lv_aload_n E.1 E.2.1 dX1_countDone_5 rfl (lv_at hl 2 rfl) ?_
      refine g_ln (v := .int (S 6 0 0)) E hP hV hw 6 (by decide) gw_148 rfl dX1_countDone_6 ?_
      refine lv_icmp_ge (tgt := 33) E.1 E.2.1 dX1_countDone_9 (by decide) (fun c_9 => ?_) (fun c_9 => ?_)
      · have hd : nT S ≤ i := lq1 (by omega) c_9
        refine lv_iload_n E.1 E.2.1 dX1_countDone_33 rfl (lv_at hl 1 rfl) ?_
        exact e_iP E hr hlk (by rw [ha, show i = nT S from by omega]) dX1_countDone_34
      · have hd : i < nT S := lq2 (by omega) c_9
        refine lv_aload_n E.1 E.2.1 dX1_countDone_12 rfl (lv_at hl 2 rfl) ?_
        refine g_ln E hP hV hw 5 (by decide) gw_25 rfl dX1_countDone_13 ?_
        refine lv_iload_n E.1 E.2.1 dX1_countDone_16 rfl (lv_at hl 0 rfl) ?_
        refine a_tr (k := i) E hP hw (nI_clamp (by omega)) (vp_in_nI (by omega) (by omega)) dX1_countDone_17 ?_
        refine go_Pi (run_V (rest := []) E hml hl.1 (c_X3_isDone l  hV hw (by omega)) k_X3_isDone ⟨rfl, rfl, Nat.le_of_ble_eq_true rfl, Nat.le_of_ble_eq_true rfl⟩ gw_240 gw_210 gw_211 hP (rv_tr E hP hw (by omega)) rfl rfl (Nat.le_of_ble_eq_true rfl) ⟨Nat.zero_le _, Nat.zero_le _⟩ dX1_countDone_18) ?_
        refine lv_if_eq (tgt := 27) E.1 E.2.1 dX1_countDone_21 (by decide) (fun c_21 => ?_) (fun c_21 => ?_)
        · refine lv_iinc (v := (nI (i + 1))) (lv' := [(2, .int (nI (i + 1))), (1, .int a), (0, .ref (ad Z (cLn w)))]) E.1 E.2.1 dX1_countDone_27 hl (k := 0) rfl (nI_1 _) (by decide) rfl (fun ls hl => ?_)
          refine lv_goto (tgt := 4) E.1 E.2.1 dX1_countDone_30 (by decide) ?_
          exact ih_4 (i + 1) _ (by omega) (by rw [ha]; simp [cntTo, nI_1, c_9, c_21, (b2i_f c_21)]) (by omega)  ls (lv_sub hl [0, 1, 2] rfl)
        · refine lv_iinc (v := (a + 1)) (lv' := [(1, .int (a + 1)), (2, .int (nI i)), (0, .ref (ad Z (cLn w)))]) E.1 E.2.1 dX1_countDone_24 hl (k := 1) rfl rfl (by decide) rfl (fun ls hl => ?_)
          refine lv_iinc (v := (nI (i + 1))) (lv' := [(2, .int (nI (i + 1))), (1, .int (a + 1)), (0, .ref (ad Z (cLn w)))]) E.1 E.2.1 dX1_countDone_27 hl (k := 1) rfl (nI_1 _) (by decide) rfl (fun ls hl => ?_)
          refine lv_goto (tgt := 4) E.1 E.2.1 dX1_countDone_30 (by decide) ?_
          exact ih_4 (i + 1) _ (by omega) (by rw [ha]; simp [cntTo, nI_1, c_9, c_21, (b2i_t c_21)]) (by omega)  ls (lv_sub hl [0, 1, 2] rfl)
  exact loop_4 (nT S + 1) 0 _ (by omega) rfl (Nat.zero_le _)  _ (lv_sub hl [0, 1, 2] rfl)

abbrev rm_X1_countAtStations : Room := { frames := 1, cells := 0, slots := 0, locals := 20 }
theorem k_X1_countAtStations : Card yX1_countAtStations cX1_countAtStations 3 (some .int) 0 := ⟨gw_244, gw_12, by decide +kernel, by decide +kernel⟩
set_option maxHeartbeats 4000000 in
set_option maxRecDepth 20000 in
theorem c_X1_countAtStations (l : Launch) {Z : Gm} {V : Nat → St} {w : Nat} {S : St} (hV : V w = S) (hw : w < 2) (hL : Lim S) : Met l yX1_countAtStations (.code yX1_countAtStations cX1_countAtStations 3 (some .int) :: gG) rm_X1_countAtStations (PW Z V [.ref (ad Z (cLn w))]) (QP (some (.int (nI (cntTo (atStF S) (nT S)))))) 0 0 (fun _ => False) := by
  refine met_of (by decide +kernel) (Nat.le_of_ble_eq_true rfl) ?_
  intro p e s m args below meth c ls E hr hlk hml hP hl
  have E : EE Z p s m args c cX1_countAtStations RX1 := E
  have hl : lv_has ls 3 [(0, .ref (ad Z (cLn w)))] := hl
  have hT := hL.2.2
  have hR := hL.2.1
  have hB := hL.1
  refine lv_iconst (v := 0) E.1 E.2.1 dX1_countAtStations_0 (by decide) ?_
  refine lv_istore_n (lv' := [(1, .int 0), (0, .ref (ad Z (cLn w)))]) E.1 E.2.1 dX1_countAtStations_1 rfl hl (by decide) rfl (fun ls hl => ?_)
  refine lv_iconst (v := 0) E.1 E.2.1 dX1_countAtStations_2 (by decide) ?_
  refine lv_istore_n (lv' := [(2, .int 0), (1, .int 0), (0, .ref (ad Z (cLn w)))]) E.1 E.2.1 dX1_countAtStations_3 rfl hl (by decide) rfl (fun ls hl => ?_)
  have loop_4 : ∀ (n_4 : Nat) (i : Nat) (a : Int32), nT S - i < n_4 → (a = nI (cntTo (atStF S) i)) → (i ≤ nT S) → ∀ (ls : Array Slot), lv_has ls 3 [(2, .int (nI i)), (1, .int a), (0, .ref (ad Z (cLn w)))] → W p l e rm_X1_countAtStations s m args below meth c s.heap [] 0 0 (MQ below (QP (some (.int (nI (cntTo (atStF S) (nT S)))))) args s 0 0 (fun _ => False)) (F0 m 4 ls []) := by
    intro n_4
    induction n_4 with
    | zero => intro i a hm_4; exact absurd hm_4 (by omega)
    | succ n_4 ih_4 =>
      intro i a hm_4 ha hi  ls hl
      refine lv_iload_n E.1 E.2.1 dX1_countAtStations_4 rfl (lv_at hl 0 rfl) ?_
      refine lv_aload_n E.1 E.2.1 dX1_countAtStations_5 rfl (lv_at hl 2 rfl) ?_
      refine g_ln (v := .int (S 6 0 0)) E hP hV hw 6 (by decide) gw_148 rfl dX1_countAtStations_6 ?_
      refine lv_icmp_ge (tgt := 33) E.1 E.2.1 dX1_countAtStations_9 (by decide) (fun c_9 => ?_) (fun c_9 => ?_)
      · have hd : nT S ≤ i := lq1 (by omega) c_9
        refine lv_iload_n E.1 E.2.1 dX1_countAtStations_33 rfl (lv_at hl 1 rfl) ?_
        exact e_iP E hr hlk (by rw [ha, show i = nT S from by omega]) dX1_countAtStations_34
      · have hd : i < nT S := lq2 (by omega) c_9
        refine lv_aload_n E.1 E.2.1 dX1_countAtStations_12 rfl (lv_at hl 2 rfl) ?_
        refine g_ln E hP hV hw 5 (by decide) gw_25 rfl dX1_countAtStations_13 ?_
        refine lv_iload_n E.1 E.2.1 dX1_countAtStations_16 rfl (lv_at hl 0 rfl) ?_
        refine a_tr (k := i) E hP hw (nI_clamp (by omega)) (vp_in_nI (by omega) (by omega)) dX1_countAtStations_17 ?_
        refine go_Pi (run_V (rest := []) E hml hl.1 (c_X3_isAtStation l  hV hw (by omega)) k_X3_isAtStation ⟨rfl, rfl, Nat.le_of_ble_eq_true rfl, Nat.le_of_ble_eq_true rfl⟩ gw_245 gw_246 gw_247 hP (rv_tr E hP hw (by omega)) rfl rfl (Nat.le_of_ble_eq_true rfl) ⟨Nat.zero_le _, Nat.zero_le _⟩ dX1_countAtStations_18) ?_
        refine lv_if_eq (tgt := 27) E.1 E.2.1 dX1_countAtStations_21 (by decide) (fun c_21 => ?_) (fun c_21 => ?_)
        · refine lv_iinc (v := (nI (i + 1))) (lv' := [(2, .int (nI (i + 1))), (1, .int a), (0, .ref (ad Z (cLn w)))]) E.1 E.2.1 dX1_countAtStations_27 hl (k := 0) rfl (nI_1 _) (by decide) rfl (fun ls hl => ?_)
          refine lv_goto (tgt := 4) E.1 E.2.1 dX1_countAtStations_30 (by decide) ?_
          exact ih_4 (i + 1) _ (by omega) (by rw [ha]; simp [cntTo, nI_1, c_9, c_21, (b2i_f c_21)]) (by omega)  ls (lv_sub hl [0, 1, 2] rfl)
        · refine lv_iinc (v := (a + 1)) (lv' := [(1, .int (a + 1)), (2, .int (nI i)), (0, .ref (ad Z (cLn w)))]) E.1 E.2.1 dX1_countAtStations_24 hl (k := 1) rfl rfl (by decide) rfl (fun ls hl => ?_)
          refine lv_iinc (v := (nI (i + 1))) (lv' := [(2, .int (nI (i + 1))), (1, .int (a + 1)), (0, .ref (ad Z (cLn w)))]) E.1 E.2.1 dX1_countAtStations_27 hl (k := 1) rfl (nI_1 _) (by decide) rfl (fun ls hl => ?_)
          refine lv_goto (tgt := 4) E.1 E.2.1 dX1_countAtStations_30 (by decide) ?_
          exact ih_4 (i + 1) _ (by omega) (by rw [ha]; simp [cntTo, nI_1, c_9, c_21, (b2i_t c_21)]) (by omega)  ls (lv_sub hl [0, 1, 2] rfl)
  exact loop_4 (nT S + 1) 0 _ (by omega) rfl (Nat.zero_le _)  _ (lv_sub hl [0, 1, 2] rfl)

abbrev rm_X1_countOnBlocks : Room := { frames := 1, cells := 0, slots := 0, locals := 20 }
theorem k_X1_countOnBlocks : Card yX1_countOnBlocks cX1_countOnBlocks 3 (some .int) 0 := ⟨gw_252, gw_12, by decide +kernel, by decide +kernel⟩
set_option maxHeartbeats 4000000 in
set_option maxRecDepth 20000 in
theorem c_X1_countOnBlocks (l : Launch) {Z : Gm} {V : Nat → St} {w : Nat} {S : St} (hV : V w = S) (hw : w < 2) (hL : Lim S) : Met l yX1_countOnBlocks (.code yX1_countOnBlocks cX1_countOnBlocks 3 (some .int) :: gG) rm_X1_countOnBlocks (PW Z V [.ref (ad Z (cLn w))]) (QP (some (.int (nI (cntTo (onBlockF S) (nT S)))))) 0 0 (fun _ => False) := by
  refine met_of (by decide +kernel) (Nat.le_of_ble_eq_true rfl) ?_
  intro p e s m args below meth c ls E hr hlk hml hP hl
  have E : EE Z p s m args c cX1_countOnBlocks RX1 := E
  have hl : lv_has ls 3 [(0, .ref (ad Z (cLn w)))] := hl
  have hT := hL.2.2
  have hR := hL.2.1
  have hB := hL.1
  refine lv_iconst (v := 0) E.1 E.2.1 dX1_countOnBlocks_0 (by decide) ?_
  refine lv_istore_n (lv' := [(1, .int 0), (0, .ref (ad Z (cLn w)))]) E.1 E.2.1 dX1_countOnBlocks_1 rfl hl (by decide) rfl (fun ls hl => ?_)
  refine lv_iconst (v := 0) E.1 E.2.1 dX1_countOnBlocks_2 (by decide) ?_
  refine lv_istore_n (lv' := [(2, .int 0), (1, .int 0), (0, .ref (ad Z (cLn w)))]) E.1 E.2.1 dX1_countOnBlocks_3 rfl hl (by decide) rfl (fun ls hl => ?_)
  have loop_4 : ∀ (n_4 : Nat) (i : Nat) (a : Int32), nT S - i < n_4 → (a = nI (cntTo (onBlockF S) i)) → (i ≤ nT S) → ∀ (ls : Array Slot), lv_has ls 3 [(2, .int (nI i)), (1, .int a), (0, .ref (ad Z (cLn w)))] → W p l e rm_X1_countOnBlocks s m args below meth c s.heap [] 0 0 (MQ below (QP (some (.int (nI (cntTo (onBlockF S) (nT S)))))) args s 0 0 (fun _ => False)) (F0 m 4 ls []) := by
    intro n_4
    induction n_4 with
    | zero => intro i a hm_4; exact absurd hm_4 (by omega)
    | succ n_4 ih_4 =>
      intro i a hm_4 ha hi  ls hl
      refine lv_iload_n E.1 E.2.1 dX1_countOnBlocks_4 rfl (lv_at hl 0 rfl) ?_
      refine lv_aload_n E.1 E.2.1 dX1_countOnBlocks_5 rfl (lv_at hl 2 rfl) ?_
      refine g_ln (v := .int (S 6 0 0)) E hP hV hw 6 (by decide) gw_148 rfl dX1_countOnBlocks_6 ?_
      refine lv_icmp_ge (tgt := 33) E.1 E.2.1 dX1_countOnBlocks_9 (by decide) (fun c_9 => ?_) (fun c_9 => ?_)
      · have hd : nT S ≤ i := lq1 (by omega) c_9
        refine lv_iload_n E.1 E.2.1 dX1_countOnBlocks_33 rfl (lv_at hl 1 rfl) ?_
        exact e_iP E hr hlk (by rw [ha, show i = nT S from by omega]) dX1_countOnBlocks_34
      · have hd : i < nT S := lq2 (by omega) c_9
        refine lv_aload_n E.1 E.2.1 dX1_countOnBlocks_12 rfl (lv_at hl 2 rfl) ?_
        refine g_ln E hP hV hw 5 (by decide) gw_25 rfl dX1_countOnBlocks_13 ?_
        refine lv_iload_n E.1 E.2.1 dX1_countOnBlocks_16 rfl (lv_at hl 0 rfl) ?_
        refine a_tr (k := i) E hP hw (nI_clamp (by omega)) (vp_in_nI (by omega) (by omega)) dX1_countOnBlocks_17 ?_
        refine go_Pi (run_V (rest := []) E hml hl.1 (c_X3_isOnBlock l  hV hw (by omega)) k_X3_isOnBlock ⟨rfl, rfl, Nat.le_of_ble_eq_true rfl, Nat.le_of_ble_eq_true rfl⟩ gw_253 gw_254 gw_255 hP (rv_tr E hP hw (by omega)) rfl rfl (Nat.le_of_ble_eq_true rfl) ⟨Nat.zero_le _, Nat.zero_le _⟩ dX1_countOnBlocks_18) ?_
        refine lv_if_eq (tgt := 27) E.1 E.2.1 dX1_countOnBlocks_21 (by decide) (fun c_21 => ?_) (fun c_21 => ?_)
        · refine lv_iinc (v := (nI (i + 1))) (lv' := [(2, .int (nI (i + 1))), (1, .int a), (0, .ref (ad Z (cLn w)))]) E.1 E.2.1 dX1_countOnBlocks_27 hl (k := 0) rfl (nI_1 _) (by decide) rfl (fun ls hl => ?_)
          refine lv_goto (tgt := 4) E.1 E.2.1 dX1_countOnBlocks_30 (by decide) ?_
          exact ih_4 (i + 1) _ (by omega) (by rw [ha]; simp [cntTo, nI_1, c_9, c_21, (b2i_f c_21)]) (by omega)  ls (lv_sub hl [0, 1, 2] rfl)
        · refine lv_iinc (v := (a + 1)) (lv' := [(1, .int (a + 1)), (2, .int (nI i)), (0, .ref (ad Z (cLn w)))]) E.1 E.2.1 dX1_countOnBlocks_24 hl (k := 1) rfl rfl (by decide) rfl (fun ls hl => ?_)
          refine lv_iinc (v := (nI (i + 1))) (lv' := [(2, .int (nI (i + 1))), (1, .int (a + 1)), (0, .ref (ad Z (cLn w)))]) E.1 E.2.1 dX1_countOnBlocks_27 hl (k := 1) rfl (nI_1 _) (by decide) rfl (fun ls hl => ?_)
          refine lv_goto (tgt := 4) E.1 E.2.1 dX1_countOnBlocks_30 (by decide) ?_
          exact ih_4 (i + 1) _ (by omega) (by rw [ha]; simp [cntTo, nI_1, c_9, c_21, (b2i_t c_21)]) (by omega)  ls (lv_sub hl [0, 1, 2] rfl)
  exact loop_4 (nT S + 1) 0 _ (by omega) rfl (Nat.zero_le _)  _ (lv_sub hl [0, 1, 2] rfl)

abbrev rm_X1_hasRoom : Room := { frames := 1, cells := 0, slots := 0, locals := 24 }
theorem k_X1_hasRoom : Card yX1_hasRoom cX1_hasRoom 2 (some .boolean) 1 := ⟨gw_180, gw_12, by decide +kernel, by decide +kernel⟩
set_option maxHeartbeats 4000000 in
set_option maxRecDepth 20000 in
theorem c_X1_hasRoom (l : Launch) {Z : Gm} {V : Nat → St} {w : Nat} {S : St} (hV : V w = S) (hw : w < 2) (x : Int32) (hL : Lim S) : Met l yX1_hasRoom (.code yX1_hasRoom cX1_hasRoom 2 (some .boolean) :: gG) rm_X1_hasRoom (PW Z V [.ref (ad Z (cLn w)), .int x]) (QP (some (.int (b2i (hasRoomF S x))))) 0 0 (fun _ => False) := by
  refine met_of (by decide +kernel) (Nat.le_of_ble_eq_true rfl) ?_
  intro p e s m args below meth c ls E hr hlk hml hP hl
  have E : EE Z p s m args c cX1_hasRoom RX1 := E
  have hl : lv_has ls 2 [(0, .ref (ad Z (cLn w))), (1, .int x)] := hl
  have hT := hL.2.2
  have hR := hL.2.1
  have hB := hL.1
  refine lv_iload_n E.1 E.2.1 dX1_hasRoom_0 rfl (lv_at hl 1 rfl) ?_
  refine lv_if_lt (tgt := 34) E.1 E.2.1 dX1_hasRoom_1 (by decide) (fun c_1 => ?_) (fun c_1 => ?_)
  · refine lv_iconst (v := 0) E.1 E.2.1 dX1_hasRoom_34 (by decide) ?_
    exact e_zP E hr hlk (by simp [hasRoomF, b2i, c_1]) (Or.inl rfl) dX1_hasRoom_35
  · refine lv_iload_n E.1 E.2.1 dX1_hasRoom_4 rfl (lv_at hl 1 rfl) ?_
    refine lv_bipush (v := 6) E.1 E.2.1 dX1_hasRoom_5 (by decide) ?_
    refine lv_icmp_ge (tgt := 34) E.1 E.2.1 dX1_hasRoom_7 (by decide) (fun c_7 => ?_) (fun c_7 => ?_)
    · refine lv_iconst (v := 0) E.1 E.2.1 dX1_hasRoom_34 (by decide) ?_
      exact e_zP E hr hlk (by simp [hasRoomF, b2i, c_1, c_7]) (Or.inl rfl) dX1_hasRoom_35
    · refine lv_aload_n E.1 E.2.1 dX1_hasRoom_10 rfl (lv_at hl 0 rfl) ?_
      refine lv_iload_n E.1 E.2.1 dX1_hasRoom_11 rfl (lv_at hl 1 rfl) ?_
      refine go_Pi (run_V (rest := []) E hml hl.1 (c_X1_countAt l  hV hw x hL) k_X1_countAt ⟨rfl, rfl, Nat.le_of_ble_eq_true rfl, Nat.le_of_ble_eq_true rfl⟩ gw_181 gw_156 gw_157 hP (rv_ln E hP hw) rfl rfl (Nat.le_of_ble_eq_true rfl) ⟨Nat.zero_le _, Nat.zero_le _⟩ dX1_hasRoom_12) ?_
      refine lv_aload_n E.1 E.2.1 dX1_hasRoom_15 rfl (lv_at hl 0 rfl) ?_
      refine lv_iload_n E.1 E.2.1 dX1_hasRoom_16 rfl (lv_at hl 1 rfl) ?_
      refine go_Pi (run_V (rest := [.int (nI (cntTo (atQ S x) (nT S)))]) E hml hl.1 (c_X1_countOnTheWayTo l  hV hw x hL) k_X1_countOnTheWayTo ⟨rfl, rfl, Nat.le_of_ble_eq_true rfl, Nat.le_of_ble_eq_true rfl⟩ gw_182 gw_161 gw_162 hP (rv_ln E hP hw) rfl rfl (Nat.le_of_ble_eq_true rfl) ⟨Nat.zero_le _, Nat.zero_le _⟩ dX1_hasRoom_17) ?_
      refine lv_iadd E.1 E.2.1 dX1_hasRoom_20 ?_
      refine lv_aload_n E.1 E.2.1 dX1_hasRoom_21 rfl (lv_at hl 0 rfl) ?_
      refine g_ln E hP hV hw 0 (by decide) gw_19 rfl dX1_hasRoom_22 ?_
      refine lv_iload_n E.1 E.2.1 dX1_hasRoom_25 rfl (lv_at hl 1 rfl) ?_
      have hin_26 : vp_in x 6 := vin c_1 c_7 (by decide)
      refine i_pl (j := (x.toNatClampNeg)) E hP hV hw rfl hin_26 dX1_hasRoom_26 ?_
      refine lv_icmp_ge (tgt := 34) E.1 E.2.1 dX1_hasRoom_27 (by decide) (fun c_27 => ?_) (fun c_27 => ?_)
      · refine lv_iconst (v := 0) E.1 E.2.1 dX1_hasRoom_34 (by decide) ?_
        exact e_zP E hr hlk (by simp [hasRoomF, b2i, c_1, c_7, c_27]) (Or.inl rfl) dX1_hasRoom_35
      · refine lv_iconst (v := 1) E.1 E.2.1 dX1_hasRoom_30 (by decide) ?_
        refine lv_goto (tgt := 35) E.1 E.2.1 dX1_hasRoom_31 (by decide) ?_
        exact e_zP E hr hlk (by simp [hasRoomF, b2i, c_1, c_7, c_27]) (Or.inr rfl) dX1_hasRoom_35

abbrev rm_X1_isInUse : Room := { frames := 0, cells := 0, slots := 0, locals := 0 }
theorem k_X1_isInUse : Card yX1_isInUse cX1_isInUse 3 (some .boolean) 1 := ⟨gw_147, gw_12, by decide +kernel, by decide +kernel⟩
set_option maxHeartbeats 4000000 in
set_option maxRecDepth 20000 in
theorem c_X1_isInUse (l : Launch) {Z : Gm} {V : Nat → St} {w : Nat} {S : St} (hV : V w = S) (hw : w < 2) (x : Int32) (hL : Lim S) : Met l yX1_isInUse (.code yX1_isInUse cX1_isInUse 3 (some .boolean) :: gG) rm_X1_isInUse (PW Z V [.ref (ad Z (cLn w)), .int x]) (QP (some (.int (b2i (inUseF S x (nT S)))))) 0 0 (fun _ => False) := by
  refine met_of (by decide +kernel) (Nat.le_of_ble_eq_true rfl) ?_
  intro p e s m args below meth c ls E hr hlk hml hP hl
  have E : EE Z p s m args c cX1_isInUse RX1 := E
  have hl : lv_has ls 3 [(0, .ref (ad Z (cLn w))), (1, .int x)] := hl
  have hT := hL.2.2
  have hR := hL.2.1
  have hB := hL.1
  refine lv_iconst (v := 0) E.1 E.2.1 dX1_isInUse_0 (by decide) ?_
  refine lv_istore_n (lv' := [(2, .int 0), (0, .ref (ad Z (cLn w))), (1, .int x)]) E.1 E.2.1 dX1_isInUse_1 rfl hl (by decide) rfl (fun ls hl => ?_)
  have loop_2 : ∀ (n_2 : Nat) (i : Nat), nT S - i < n_2 → (inUseF S x i = false) → (i ≤ nT S) → ∀ (ls : Array Slot), lv_has ls 3 [(2, .int (nI i)), (0, .ref (ad Z (cLn w))), (1, .int x)] → W p l e rm_X1_isInUse s m args below meth c s.heap [] 0 0 (MQ below (QP (some (.int (b2i (inUseF S x (nT S)))))) args s 0 0 (fun _ => False)) (F0 m 2 ls []) := by
    intro n_2
    induction n_2 with
    | zero => intro i hm_2; exact absurd hm_2 (by omega)
    | succ n_2 ih_2 =>
      intro i hm_2 ha hi  ls hl
      refine lv_iload_n E.1 E.2.1 dX1_isInUse_2 rfl (lv_at hl 0 rfl) ?_
      refine lv_aload_n E.1 E.2.1 dX1_isInUse_3 rfl (lv_at hl 1 rfl) ?_
      refine g_ln (v := .int (S 6 0 0)) E hP hV hw 6 (by decide) gw_148 rfl dX1_isInUse_4 ?_
      refine lv_icmp_ge (tgt := 31) E.1 E.2.1 dX1_isInUse_7 (by decide) (fun c_7 => ?_) (fun c_7 => ?_)
      · have hd : nT S ≤ i := lq1 (by omega) c_7
        refine lv_iconst (v := 0) E.1 E.2.1 dX1_isInUse_31 (by decide) ?_
        exact e_zP E hr hlk (by rw [← show i = nT S from by omega, ha]; rfl) (Or.inl rfl) dX1_isInUse_32
      · have hd : i < nT S := lq2 (by omega) c_7
        refine lv_aload_n E.1 E.2.1 dX1_isInUse_10 rfl (lv_at hl 1 rfl) ?_
        refine g_ln E hP hV hw 5 (by decide) gw_25 rfl dX1_isInUse_11 ?_
        refine lv_iload_n E.1 E.2.1 dX1_isInUse_14 rfl (lv_at hl 0 rfl) ?_
        refine a_tr (k := i) E hP hw (nI_clamp (by omega)) (vp_in_nI (by omega) (by omega)) dX1_isInUse_15 ?_
        refine g_tr (v := .int (S 38 i 0)) E hP hV hw (by omega) 8 (by decide) gw_149 rfl dX1_isInUse_16 ?_
        refine lv_iload_n E.1 E.2.1 dX1_isInUse_19 rfl (lv_at hl 2 rfl) ?_
        refine lv_icmp_ne (tgt := 25) E.1 E.2.1 dX1_isInUse_20 (by decide) (fun c_20 => ?_) (fun c_20 => ?_)
        · refine lv_iinc (v := (nI (i + 1))) (lv' := [(2, .int (nI (i + 1))), (0, .ref (ad Z (cLn w))), (1, .int x)]) E.1 E.2.1 dX1_isInUse_25 hl (k := 0) rfl (nI_1 _) (by decide) rfl (fun ls hl => ?_)
          refine lv_goto (tgt := 2) E.1 E.2.1 dX1_isInUse_28 (by decide) ?_
          exact ih_2 (i + 1) (by omega) (by simp [inUseF, ha, c_7, c_20]) (by omega)  ls (lv_sub hl [0, 1, 2] rfl)
        · refine lv_iconst (v := 1) E.1 E.2.1 dX1_isInUse_23 (by decide) ?_
          exact e_zP E hr hlk (by rw [inUse_true (i := i) hd (of_decide_eq_true (by simp [c_20]))]; rfl) (Or.inr rfl) dX1_isInUse_24
  exact loop_2 (nT S + 1) 0 (by omega) rfl (Nat.zero_le _)  _ (lv_sub hl [0, 1, 2] rfl)

abbrev rm_X1_firstNotClear : Room := { frames := 1, cells := 0, slots := 0, locals := 24 }
theorem k_X1_firstNotClear : Card yX1_firstNotClear cX1_firstNotClear 4 (some .int) 2 := ⟨gw_454, gw_12, by decide +kernel, by decide +kernel⟩
set_option maxHeartbeats 4000000 in
set_option maxRecDepth 20000 in
theorem c_X1_firstNotClear (l : Launch) {Z : Gm} {V : Nat → St} {w : Nat} {S : St} (hV : V w = S) (hw : w < 2) {r : Nat} (hr16 : r < 16) (x : Int32) (hL : Lim S) : Met l yX1_firstNotClear (.code yX1_firstNotClear cX1_firstNotClear 4 (some .int) :: gG) rm_X1_firstNotClear (PW Z V [.ref (ad Z (cLn w)), .ref (ad Z (cRt w r)), .int x]) (QP (some (.int (fncF S r x)))) 0 0 (fun _ => False) := by
  refine met_of (by decide +kernel) (Nat.le_of_ble_eq_true rfl) ?_
  intro p e s m args below meth c ls E hr hlk hml hP hl
  have E : EE Z p s m args c cX1_firstNotClear RX1 := E
  have hl : lv_has ls 4 [(0, .ref (ad Z (cLn w))), (1, .ref (ad Z (cRt w r))), (2, .int x)] := hl
  have hT := hL.2.2
  have hR := hL.2.1
  have hB := hL.1
  have h31 := clamp_lt31 (toClearF S r)
  refine lv_iconst (v := 0) E.1 E.2.1 dX1_firstNotClear_0 (by decide) ?_
  refine lv_istore_n (lv' := [(3, .int 0), (0, .ref (ad Z (cLn w))), (1, .ref (ad Z (cRt w r))), (2, .int x)]) E.1 E.2.1 dX1_firstNotClear_1 rfl hl (by decide) rfl (fun ls hl => ?_)
  have loop_2 : ∀ (n_2 : Nat) (i : Nat), (toClearF S r).toNatClampNeg - i < n_2 → (fncL S r x ((toClearF S r).toNatClampNeg - i) i = fncF S r x) → (i ≤ (toClearF S r).toNatClampNeg) → ∀ (ls : Array Slot), lv_has ls 4 [(3, .int (nI i)), (0, .ref (ad Z (cLn w))), (1, .ref (ad Z (cRt w r))), (2, .int x)] → W p l e rm_X1_firstNotClear s m args below meth c s.heap [] 0 0 (MQ below (QP (some (.int (fncF S r x)))) args s 0 0 (fun _ => False)) (F0 m 2 ls []) := by
    intro n_2
    induction n_2 with
    | zero => intro i hm_2; exact absurd hm_2 (by omega)
    | succ n_2 ih_2 =>
      intro i hm_2 ha hi  ls hl
      refine lv_iload_n E.1 E.2.1 dX1_firstNotClear_2 rfl (lv_at hl 0 rfl) ?_
      refine lv_aload_n E.1 E.2.1 dX1_firstNotClear_3 rfl (lv_at hl 2 rfl) ?_
      refine go_Pi (run_V (rest := [.int (nI i)]) E hml hl.1 (c_X2_countToBeClear l  hV hw (by omega)) k_X2_countToBeClear ⟨rfl, rfl, Nat.le_of_ble_eq_true rfl, Nat.le_of_ble_eq_true rfl⟩ gw_455 gw_456 gw_457 hP (rv_rt E hP hw (by omega)) rfl rfl (Nat.le_of_ble_eq_true rfl) ⟨Nat.zero_le _, Nat.zero_le _⟩ dX1_firstNotClear_4) ?_
      refine lv_icmp_ge (tgt := 35) E.1 E.2.1 dX1_firstNotClear_7 (by decide) (fun c_7 => ?_) (fun c_7 => ?_)
      · have hd : (toClearF S r).toNatClampNeg ≤ i := lq1 (by omega) c_7
        refine lv_iconst (v := (-1)) E.1 E.2.1 dX1_firstNotClear_35 (by decide) ?_
        exact e_iP E hr hlk (by rw [← ha, show (toClearF S r).toNatClampNeg - i = 0 from by omega]; rfl) dX1_firstNotClear_36
      · have hd : i < (toClearF S r).toNatClampNeg := lq2 (by omega) c_7
        refine lv_aload_n E.1 E.2.1 dX1_firstNotClear_10 rfl (lv_at hl 1 rfl) ?_
        refine lv_aload_n E.1 E.2.1 dX1_firstNotClear_11 rfl (lv_at hl 2 rfl) ?_
        refine lv_iload_n E.1 E.2.1 dX1_firstNotClear_12 rfl (lv_at hl 0 rfl) ?_
        refine go_Pi (run_V (rest := [.ref (ad Z (cLn w))]) E hml hl.1 (c_X2_blockAt l  hV hw (by omega) (nI i)) k_X2_blockAt ⟨rfl, rfl, Nat.le_of_ble_eq_true rfl, Nat.le_of_ble_eq_true rfl⟩ gw_126 gw_127 gw_128 hP (rv_rt E hP hw (by omega)) rfl rfl (Nat.le_of_ble_eq_true rfl) ⟨Nat.zero_le _, Nat.zero_le _⟩ dX1_firstNotClear_13) ?_
        refine lv_iload_n E.1 E.2.1 dX1_firstNotClear_16 rfl (lv_at hl 3 rfl) ?_
        refine go_Pi (run_V (rest := []) E hml hl.1 (c_X1_isClearFor l  hV hw (blockAtF S r (nI i)) x hL) k_X1_isClearFor ⟨rfl, rfl, Nat.le_of_ble_eq_true rfl, Nat.le_of_ble_eq_true rfl⟩ gw_401 gw_402 gw_403 hP (rv_ln E hP hw) rfl rfl (Nat.le_of_ble_eq_true rfl) ⟨Nat.zero_le _, Nat.zero_le _⟩ dX1_firstNotClear_17) ?_
        refine lv_if_ne (tgt := 29) E.1 E.2.1 dX1_firstNotClear_20 (by decide) (fun c_20 => ?_) (fun c_20 => ?_)
        · refine lv_iinc (v := (nI (i + 1))) (lv' := [(3, .int (nI (i + 1))), (0, .ref (ad Z (cLn w))), (1, .ref (ad Z (cRt w r))), (2, .int x)]) E.1 E.2.1 dX1_firstNotClear_29 hl (k := 0) rfl (nI_1 _) (by decide) rfl (fun ls hl => ?_)
          refine lv_goto (tgt := 2) E.1 E.2.1 dX1_firstNotClear_32 (by decide) ?_
          exact ih_2 (i + 1) (by omega) (by rw [← ha, show (toClearF S r).toNatClampNeg - i = ((toClearF S r).toNatClampNeg - (i + 1)) + 1 from by omega]; simp [fncL, c_7, c_20, (b2i_t c_20)]) (by omega)  ls (lv_sub hl [0, 1, 2, 3] rfl)
        · refine lv_aload_n E.1 E.2.1 dX1_firstNotClear_23 rfl (lv_at hl 2 rfl) ?_
          refine lv_iload_n E.1 E.2.1 dX1_firstNotClear_24 rfl (lv_at hl 0 rfl) ?_
          refine go_Pi (run_V (rest := []) E hml hl.1 (c_X2_blockAt l  hV hw (by omega) (nI i)) k_X2_blockAt ⟨rfl, rfl, Nat.le_of_ble_eq_true rfl, Nat.le_of_ble_eq_true rfl⟩ gw_126 gw_127 gw_128 hP (rv_rt E hP hw (by omega)) rfl rfl (Nat.le_of_ble_eq_true rfl) ⟨Nat.zero_le _, Nat.zero_le _⟩ dX1_firstNotClear_25) ?_
          exact e_iP E hr hlk (by rw [← ha, show (toClearF S r).toNatClampNeg - i = ((toClearF S r).toNatClampNeg - (i + 1)) + 1 from by omega]; simp [fncL, c_7, c_20, (b2i_f c_20)]) dX1_firstNotClear_28
  exact loop_2 ((toClearF S r).toNatClampNeg + 1) 0 (by omega) rfl (Nat.zero_le _)  _ (lv_sub hl [0, 1, 2, 3] rfl)

abbrev rm_X1_isOpenFor : Room := { frames := 2, cells := 0, slots := 0, locals := 47 }
theorem k_X1_isOpenFor : Card yX1_isOpenFor cX1_isOpenFor 3 (some .boolean) 2 := ⟨gw_449, gw_12, by decide +kernel, by decide +kernel⟩
set_option maxHeartbeats 4000000 in
set_option maxRecDepth 20000 in
theorem c_X1_isOpenFor (l : Launch) {Z : Gm} {V : Nat → St} {w : Nat} {S : St} (hV : V w = S) (hw : w < 2) {r : Nat} (hr16 : r < 16) (x : Int32) (hL : Lim S) : Met l yX1_isOpenFor (.code yX1_isOpenFor cX1_isOpenFor 3 (some .boolean) :: gG) rm_X1_isOpenFor (PW Z V [.ref (ad Z (cLn w)), .ref (ad Z (cRt w r)), .int x]) (QP (some (.int (b2i (openF S r x))))) 0 0 (fun _ => False) := by
  refine met_of (by decide +kernel) (Nat.le_of_ble_eq_true rfl) ?_
  intro p e s m args below meth c ls E hr hlk hml hP hl
  have E : EE Z p s m args c cX1_isOpenFor RX1 := E
  have hl : lv_has ls 3 [(0, .ref (ad Z (cLn w))), (1, .ref (ad Z (cRt w r))), (2, .int x)] := hl
  have hT := hL.2.2
  have hR := hL.2.1
  have hB := hL.1
  refine lv_aload_n E.1 E.2.1 dX1_isOpenFor_0 rfl (lv_at hl 0 rfl) ?_
  refine lv_aload_n E.1 E.2.1 dX1_isOpenFor_1 rfl (lv_at hl 1 rfl) ?_
  refine g_rt (v := .int (S 21 r 0)) E hP hV hw (by omega) 1 (by decide) gw_165 rfl dX1_isOpenFor_2 ?_
  refine go_Pi (run_V (rest := []) E hml hl.1 (c_X1_hasRoom l  hV hw (S 21 r 0) hL) k_X1_hasRoom ⟨rfl, rfl, Nat.le_of_ble_eq_true rfl, Nat.le_of_ble_eq_true rfl⟩ gw_450 gw_178 gw_179 hP (rv_ln E hP hw) rfl rfl (Nat.le_of_ble_eq_true rfl) ⟨Nat.zero_le _, Nat.zero_le _⟩ dX1_isOpenFor_5) ?_
  refine lv_if_eq (tgt := 25) E.1 E.2.1 dX1_isOpenFor_8 (by decide) (fun c_8 => ?_) (fun c_8 => ?_)
  · refine lv_iconst (v := 0) E.1 E.2.1 dX1_isOpenFor_25 (by decide) ?_
    exact e_zP E hr hlk (by simp [openF, b2i, c_8, (b2i_f c_8)]) (Or.inl rfl) dX1_isOpenFor_26
  · refine lv_aload_n E.1 E.2.1 dX1_isOpenFor_11 rfl (lv_at hl 0 rfl) ?_
    refine lv_aload_n E.1 E.2.1 dX1_isOpenFor_12 rfl (lv_at hl 1 rfl) ?_
    refine lv_iload_n E.1 E.2.1 dX1_isOpenFor_13 rfl (lv_at hl 2 rfl) ?_
    refine go_Pi (run_V (rest := []) E hml hl.1 (c_X1_firstNotClear l  hV hw (by omega) x hL) k_X1_firstNotClear ⟨rfl, rfl, Nat.le_of_ble_eq_true rfl, Nat.le_of_ble_eq_true rfl⟩ gw_451 gw_452 gw_453 hP (rv_ln E hP hw) rfl rfl (Nat.le_of_ble_eq_true rfl) ⟨Nat.zero_le _, Nat.zero_le _⟩ dX1_isOpenFor_14) ?_
    refine lv_iconst (v := (-1)) E.1 E.2.1 dX1_isOpenFor_17 (by decide) ?_
    refine lv_icmp_ne (tgt := 25) E.1 E.2.1 dX1_isOpenFor_18 (by decide) (fun c_18 => ?_) (fun c_18 => ?_)
    · refine lv_iconst (v := 0) E.1 E.2.1 dX1_isOpenFor_25 (by decide) ?_
      exact e_zP E hr hlk (by simp [openF, b2i, c_8, (b2i_t c_8), c_18]) (Or.inl rfl) dX1_isOpenFor_26
    · refine lv_iconst (v := 1) E.1 E.2.1 dX1_isOpenFor_21 (by decide) ?_
      refine lv_goto (tgt := 26) E.1 E.2.1 dX1_isOpenFor_22 (by decide) ?_
      exact e_zP E hr hlk (by simp [openF, b2i, c_8, (b2i_t c_8), c_18]) (Or.inr rfl) dX1_isOpenFor_26

abbrev rm_X1_blameOn : Room := { frames := 2, cells := 0, slots := 0, locals := 47 }
theorem k_X1_blameOn : Card yX1_blameOn cX1_blameOn 3 (some .int) 2 := ⟨gw_471, gw_12, by decide +kernel, by decide +kernel⟩
set_option maxHeartbeats 4000000 in
set_option maxRecDepth 20000 in
theorem c_X1_blameOn (l : Launch) {Z : Gm} {V : Nat → St} {w : Nat} {S : St} (hV : V w = S) (hw : w < 2) {r : Nat} (hr16 : r < 16) (x : Int32) (hL : Lim S) : Met l yX1_blameOn (.code yX1_blameOn cX1_blameOn 3 (some .int) :: gG) rm_X1_blameOn (PW Z V [.ref (ad Z (cLn w)), .ref (ad Z (cRt w r)), .int x]) (QP (some (.int (blameF S r x)))) 0 0 (fun _ => False) := by
  refine met_of (by decide +kernel) (Nat.le_of_ble_eq_true rfl) ?_
  intro p e s m args below meth c ls E hr hlk hml hP hl
  have E : EE Z p s m args c cX1_blameOn RX1 := E
  have hl : lv_has ls 3 [(0, .ref (ad Z (cLn w))), (1, .ref (ad Z (cRt w r))), (2, .int x)] := hl
  have hT := hL.2.2
  have hR := hL.2.1
  have hB := hL.1
  refine lv_aload_n E.1 E.2.1 dX1_blameOn_0 rfl (lv_at hl 0 rfl) ?_
  refine lv_aload_n E.1 E.2.1 dX1_blameOn_1 rfl (lv_at hl 0 rfl) ?_
  refine lv_aload_n E.1 E.2.1 dX1_blameOn_2 rfl (lv_at hl 1 rfl) ?_
  refine lv_iload_n E.1 E.2.1 dX1_blameOn_3 rfl (lv_at hl 2 rfl) ?_
  refine go_Pi (run_V (rest := [.ref (ad Z (cLn w))]) E hml hl.1 (c_X1_firstNotClear l  hV hw (by omega) x hL) k_X1_firstNotClear ⟨rfl, rfl, Nat.le_of_ble_eq_true rfl, Nat.le_of_ble_eq_true rfl⟩ gw_451 gw_452 gw_453 hP (rv_ln E hP hw) rfl rfl (Nat.le_of_ble_eq_true rfl) ⟨Nat.zero_le _, Nat.zero_le _⟩ dX1_blameOn_4) ?_
  refine lv_iload_n E.1 E.2.1 dX1_blameOn_7 rfl (lv_at hl 2 rfl) ?_
  refine go_Pi (run_V (rest := []) E hml hl.1 (c_X1_trainInTheWay l  hV hw (fncF S r x) x hL) k_X1_trainInTheWay ⟨rfl, rfl, Nat.le_of_ble_eq_true rfl, Nat.le_of_ble_eq_true rfl⟩ gw_412 gw_413 gw_414 hP (rv_ln E hP hw) rfl rfl (Nat.le_of_ble_eq_true rfl) ⟨Nat.zero_le _, Nat.zero_le _⟩ dX1_blameOn_8) ?_
  exact e_iP E hr hlk (by rfl) dX1_blameOn_11

abbrev rm_X1_isReady : Room := { frames := 1, cells := 0, slots := 0, locals := 21 }
theorem k_X1_isReady : Card yX1_isReady cX1_isReady 2 (some .boolean) 1 := ⟨gw_301, gw_12, by decide +kernel, by decide +kernel⟩
set_option maxHeartbeats 4000000 in
set_option maxRecDepth 20000 in
theorem c_X1_isReady (l : Launch) {Z : Gm} {V : Nat → St} {w : Nat} {S : St} (hV : V w = S) (hw : w < 2) {i : Nat} (hi : i < 8)  : Met l yX1_isReady (.code yX1_isReady cX1_isReady 2 (some .boolean) :: gG) rm_X1_isReady (PW Z V [.ref (ad Z (cLn w)), .ref (ad Z (cTr w i))]) (QP (some (.int (b2i (readyF S i))))) 0 0 (fun _ => False) := by
  refine met_of (by decide +kernel) (Nat.le_of_ble_eq_true rfl) ?_
  intro p e s m args below meth c ls E hr hlk hml hP hl
  have E : EE Z p s m args c cX1_isReady RX1 := E
  have hl : lv_has ls 2 [(0, .ref (ad Z (cLn w))), (1, .ref (ad Z (cTr w i)))] := hl
  refine lv_aload_n E.1 E.2.1 dX1_isReady_0 rfl (lv_at hl 1 rfl) ?_
  refine go_Pi (run_V (rest := []) E hml hl.1 (c_X3_isAtStation l  hV hw (by omega)) k_X3_isAtStation ⟨rfl, rfl, Nat.le_of_ble_eq_true rfl, Nat.le_of_ble_eq_true rfl⟩ gw_245 gw_246 gw_247 hP (rv_tr E hP hw (by omega)) rfl rfl (Nat.le_of_ble_eq_true rfl) ⟨Nat.zero_le _, Nat.zero_le _⟩ dX1_isReady_1) ?_
  refine lv_if_eq (tgt := 60) E.1 E.2.1 dX1_isReady_4 (by decide) (fun c_4 => ?_) (fun c_4 => ?_)
  · refine lv_iconst (v := 0) E.1 E.2.1 dX1_isReady_60 (by decide) ?_
    exact e_zP E hr hlk (by simp [readyF, b2i, c_4, (b2i_f c_4)]) (Or.inl rfl) dX1_isReady_61
  · refine lv_aload_n E.1 E.2.1 dX1_isReady_7 rfl (lv_at hl 1 rfl) ?_
    refine go_Pi (run_V (rest := []) E hml hl.1 (c_X3_isAtLastStop l  hV hw (by omega)) k_X3_isAtLastStop ⟨rfl, rfl, Nat.le_of_ble_eq_true rfl, Nat.le_of_ble_eq_true rfl⟩ gw_305 gw_306 gw_307 hP (rv_tr E hP hw (by omega)) rfl rfl (Nat.le_of_ble_eq_true rfl) ⟨Nat.zero_le _, Nat.zero_le _⟩ dX1_isReady_8) ?_
    refine lv_if_ne (tgt := 60) E.1 E.2.1 dX1_isReady_11 (by decide) (fun c_11 => ?_) (fun c_11 => ?_)
    · refine lv_iconst (v := 0) E.1 E.2.1 dX1_isReady_60 (by decide) ?_
      exact e_zP E hr hlk (by simp [readyF, b2i, c_4, (b2i_t c_4), c_11, (b2i_t c_11)]) (Or.inl rfl) dX1_isReady_61
    · refine lv_aload_n E.1 E.2.1 dX1_isReady_14 rfl (lv_at hl 0 rfl) ?_
      refine g_ln (v := .int (S 9 0 0)) E hP hV hw 9 (by decide) gw_278 rfl dX1_isReady_15 ?_
      refine lv_aload_n E.1 E.2.1 dX1_isReady_18 rfl (lv_at hl 1 rfl) ?_
      refine lv_aload_n E.1 E.2.1 dX1_isReady_19 rfl (lv_at hl 1 rfl) ?_
      refine g_tr (v := .int (S 35 i 0)) E hP hV hw (by omega) 5 (by decide) gw_302 rfl dX1_isReady_20 ?_
      refine go_Pi (run_V (rest := [.int (S 9 0 0)]) E hml hl.1 (c_X3_timeOf l  hV hw (by omega) (S 35 i 0)) k_X3_timeOf ⟨rfl, rfl, Nat.le_of_ble_eq_true rfl, Nat.le_of_ble_eq_true rfl⟩ gw_310 gw_198 gw_199 hP (rv_tr E hP hw (by omega)) rfl rfl (Nat.le_of_ble_eq_true rfl) ⟨Nat.zero_le _, Nat.zero_le _⟩ dX1_isReady_23) ?_
      refine lv_icmp_lt (tgt := 60) E.1 E.2.1 dX1_isReady_26 (by decide) (fun c_26 => ?_) (fun c_26 => ?_)
      · refine lv_iconst (v := 0) E.1 E.2.1 dX1_isReady_60 (by decide) ?_
        exact e_zP E hr hlk (by simp [readyF, b2i, c_4, (b2i_t c_4), c_11, (b2i_f c_11), c_26]) (Or.inl rfl) dX1_isReady_61
      · refine lv_aload_n E.1 E.2.1 dX1_isReady_29 rfl (lv_at hl 0 rfl) ?_
        refine g_ln (v := .int (S 9 0 0)) E hP hV hw 9 (by decide) gw_278 rfl dX1_isReady_30 ?_
        refine lv_aload_n E.1 E.2.1 dX1_isReady_33 rfl (lv_at hl 1 rfl) ?_
        refine g_tr (v := .int (S 37 i 0)) E hP hV hw (by omega) 7 (by decide) gw_303 rfl dX1_isReady_34 ?_
        refine lv_isub E.1 E.2.1 dX1_isReady_37 ?_
        refine lv_aload_n E.1 E.2.1 dX1_isReady_38 rfl (lv_at hl 0 rfl) ?_
        refine g_ln (v := .int (S 8 0 0)) E hP hV hw 8 (by decide) gw_26 rfl dX1_isReady_39 ?_
        refine lv_icmp_lt (tgt := 60) E.1 E.2.1 dX1_isReady_42 (by decide) (fun c_42 => ?_) (fun c_42 => ?_)
        · refine lv_iconst (v := 0) E.1 E.2.1 dX1_isReady_60 (by decide) ?_
          exact e_zP E hr hlk (by simp [readyF, b2i, c_4, (b2i_t c_4), c_11, (b2i_f c_11), c_26, c_42]) (Or.inl rfl) dX1_isReady_61
        · refine lv_aload_n E.1 E.2.1 dX1_isReady_45 rfl (lv_at hl 0 rfl) ?_
          refine g_ln (v := .int (S 9 0 0)) E hP hV hw 9 (by decide) gw_278 rfl dX1_isReady_46 ?_
          refine lv_aload_n E.1 E.2.1 dX1_isReady_49 rfl (lv_at hl 1 rfl) ?_
          refine g_tr (v := .int (S 41 i 0)) E hP hV hw (by omega) 11 (by decide) gw_304 rfl dX1_isReady_50 ?_
          refine lv_icmp_lt (tgt := 60) E.1 E.2.1 dX1_isReady_53 (by decide) (fun c_53 => ?_) (fun c_53 => ?_)
          · refine lv_iconst (v := 0) E.1 E.2.1 dX1_isReady_60 (by decide) ?_
            exact e_zP E hr hlk (by simp [readyF, b2i, c_4, (b2i_t c_4), c_11, (b2i_f c_11), c_26, c_42, c_53]) (Or.inl rfl) dX1_isReady_61
          · refine lv_iconst (v := 1) E.1 E.2.1 dX1_isReady_56 (by decide) ?_
            refine lv_goto (tgt := 61) E.1 E.2.1 dX1_isReady_57 (by decide) ?_
            exact e_zP E hr hlk (by simp [readyF, b2i, c_4, (b2i_t c_4), c_11, (b2i_f c_11), c_26, c_42, c_53]) (Or.inr rfl) dX1_isReady_61

abbrev rm_X1_leadsOn : Room := { frames := 1, cells := 0, slots := 0, locals := 22 }
theorem k_X1_leadsOn : Card yX1_leadsOn cX1_leadsOn 3 (some .boolean) 2 := ⟨gw_441, gw_12, by decide +kernel, by decide +kernel⟩
set_option maxHeartbeats 4000000 in
set_option maxRecDepth 20000 in
theorem c_X1_leadsOn (l : Launch) {Z : Gm} {V : Nat → St} {w : Nat} {S : St} (hV : V w = S) (hw : w < 2) {r i : Nat} (hr16 : r < 16) (hi : i < 8)  : Met l yX1_leadsOn (.code yX1_leadsOn cX1_leadsOn 3 (some .boolean) :: gG) rm_X1_leadsOn (PW Z V [.ref (ad Z (cLn w)), .ref (ad Z (cRt w r)), .ref (ad Z (cTr w i))]) (QP (some (.int (b2i (leadsF S r i))))) 0 0 (fun _ => False) := by
  refine met_of (by decide +kernel) (Nat.le_of_ble_eq_true rfl) ?_
  intro p e s m args below meth c ls E hr hlk hml hP hl
  have E : EE Z p s m args c cX1_leadsOn RX1 := E
  have hl : lv_has ls 3 [(0, .ref (ad Z (cLn w))), (1, .ref (ad Z (cRt w r))), (2, .ref (ad Z (cTr w i)))] := hl
  refine lv_aload_n E.1 E.2.1 dX1_leadsOn_0 rfl (lv_at hl 1 rfl) ?_
  refine lv_aload_n E.1 E.2.1 dX1_leadsOn_1 rfl (lv_at hl 2 rfl) ?_
  refine g_tr (v := .int (S 36 i 0)) E hP hV hw (by omega) 6 (by decide) gw_159 rfl dX1_leadsOn_2 ?_
  refine lv_aload_n E.1 E.2.1 dX1_leadsOn_5 rfl (lv_at hl 2 rfl) ?_
  refine lv_aload_n E.1 E.2.1 dX1_leadsOn_6 rfl (lv_at hl 2 rfl) ?_
  refine g_tr (v := .int (S 35 i 0)) E hP hV hw (by omega) 5 (by decide) gw_302 rfl dX1_leadsOn_7 ?_
  refine lv_iconst (v := 1) E.1 E.2.1 dX1_leadsOn_10 (by decide) ?_
  refine lv_iadd E.1 E.2.1 dX1_leadsOn_11 ?_
  refine go_Pi (run_V (rest := [.int (S 36 i 0), .ref (ad Z (cRt w r))]) E hml hl.1 (c_X3_stationOf l  hV hw (by omega) ((S 35 i 0) + 1)) k_X3_stationOf ⟨rfl, rfl, Nat.le_of_ble_eq_true rfl, Nat.le_of_ble_eq_true rfl⟩ gw_400 gw_202 gw_203 hP (rv_tr E hP hw (by omega)) rfl rfl (Nat.le_of_ble_eq_true rfl) ⟨Nat.zero_le _, Nat.zero_le _⟩ dX1_leadsOn_12) ?_
  refine go_Pi (run_V (rest := []) E hml hl.1 (c_X2_joins l  hV hw (by omega) (S 36 i 0) (stationF S i ((S 35 i 0) + 1))) k_X2_joins ⟨rfl, rfl, Nat.le_of_ble_eq_true rfl, Nat.le_of_ble_eq_true rfl⟩ gw_442 gw_443 gw_444 hP (rv_rt E hP hw (by omega)) rfl rfl (Nat.le_of_ble_eq_true rfl) ⟨Nat.zero_le _, Nat.zero_le _⟩ dX1_leadsOn_15) ?_
  exact e_zP E hr hlk (by rfl) (b2i_01 _) dX1_leadsOn_18

abbrev rm_X1_goesAhead : Room := { frames := 1, cells := 0, slots := 0, locals := 21 }
theorem k_X1_goesAhead : Card yX1_goesAhead cX1_goesAhead 3 (some .boolean) 2 := ⟨gw_432, gw_12, by decide +kernel, by decide +kernel⟩
set_option maxHeartbeats 4000000 in
set_option maxRecDepth 20000 in
theorem c_X1_goesAhead (l : Launch) {Z : Gm} {V : Nat → St} {w : Nat} {S : St} (hV : V w = S) (hw : w < 2) {i j : Nat} (hi : i < 8) (hj : j < 8)  : Met l yX1_goesAhead (.code yX1_goesAhead cX1_goesAhead 3 (some .boolean) :: gG) rm_X1_goesAhead (PW Z V [.ref (ad Z (cLn w)), .ref (ad Z (cTr w i)), .ref (ad Z (cTr w j))]) (QP (some (.int (b2i (aheadF S i j))))) 0 0 (fun _ => False) := by
  refine met_of (by decide +kernel) (Nat.le_of_ble_eq_true rfl) ?_
  intro p e s m args below meth c ls E hr hlk hml hP hl
  have E : EE Z p s m args c cX1_goesAhead RX1 := E
  have hl : lv_has ls 3 [(0, .ref (ad Z (cLn w))), (1, .ref (ad Z (cTr w i))), (2, .ref (ad Z (cTr w j)))] := hl
  refine lv_aload_n E.1 E.2.1 dX1_goesAhead_0 rfl (lv_at hl 0 rfl) ?_
  refine g_ln (v := .int (S 7 0 0)) E hP hV hw 7 (by decide) gw_343 rfl dX1_goesAhead_1 ?_
  refine lv_iconst (v := 1) E.1 E.2.1 dX1_goesAhead_4 (by decide) ?_
  refine lv_icmp_ne (tgt := 25) E.1 E.2.1 dX1_goesAhead_5 (by decide) (fun c_5 => ?_) (fun c_5 => ?_)
  · refine lv_aload_n E.1 E.2.1 dX1_goesAhead_25 rfl (lv_at hl 0 rfl) ?_
    refine g_ln (v := .int (S 7 0 0)) E hP hV hw 7 (by decide) gw_343 rfl dX1_goesAhead_26 ?_
    refine lv_iconst (v := 2) E.1 E.2.1 dX1_goesAhead_29 (by decide) ?_
    refine lv_icmp_ne (tgt := 56) E.1 E.2.1 dX1_goesAhead_30 (by decide) (fun c_30 => ?_) (fun c_30 => ?_)
    · refine lv_iconst (v := 0) E.1 E.2.1 dX1_goesAhead_56 (by decide) ?_
      exact e_zP E hr hlk (by simp [aheadF, b2i, c_5, c_30]) (Or.inl rfl) dX1_goesAhead_57
    · refine lv_aload_n E.1 E.2.1 dX1_goesAhead_33 rfl (lv_at hl 1 rfl) ?_
      refine lv_aload_n E.1 E.2.1 dX1_goesAhead_34 rfl (lv_at hl 1 rfl) ?_
      refine g_tr (v := .int (S 35 i 0)) E hP hV hw (by omega) 5 (by decide) gw_302 rfl dX1_goesAhead_35 ?_
      refine go_Pi (run_V (rest := []) E hml hl.1 (c_X3_timeOf l  hV hw (by omega) (S 35 i 0)) k_X3_timeOf ⟨rfl, rfl, Nat.le_of_ble_eq_true rfl, Nat.le_of_ble_eq_true rfl⟩ gw_310 gw_198 gw_199 hP (rv_tr E hP hw (by omega)) rfl rfl (Nat.le_of_ble_eq_true rfl) ⟨Nat.zero_le _, Nat.zero_le _⟩ dX1_goesAhead_38) ?_
      refine lv_aload_n E.1 E.2.1 dX1_goesAhead_41 rfl (lv_at hl 2 rfl) ?_
      refine lv_aload_n E.1 E.2.1 dX1_goesAhead_42 rfl (lv_at hl 2 rfl) ?_
      refine g_tr (v := .int (S 35 j 0)) E hP hV hw (by omega) 5 (by decide) gw_302 rfl dX1_goesAhead_43 ?_
      refine go_Pi (run_V (rest := [.int (timeF S i (S 35 i 0))]) E hml hl.1 (c_X3_timeOf l  hV hw (by omega) (S 35 j 0)) k_X3_timeOf ⟨rfl, rfl, Nat.le_of_ble_eq_true rfl, Nat.le_of_ble_eq_true rfl⟩ gw_310 gw_198 gw_199 hP (rv_tr E hP hw (by omega)) rfl rfl (Nat.le_of_ble_eq_true rfl) ⟨Nat.zero_le _, Nat.zero_le _⟩ dX1_goesAhead_46) ?_
      refine lv_icmp_ge (tgt := 56) E.1 E.2.1 dX1_goesAhead_49 (by decide) (fun c_49 => ?_) (fun c_49 => ?_)
      · refine lv_iconst (v := 0) E.1 E.2.1 dX1_goesAhead_56 (by decide) ?_
        exact e_zP E hr hlk (by simp [aheadF, b2i, c_5, c_30, c_49]) (Or.inl rfl) dX1_goesAhead_57
      · refine lv_iconst (v := 1) E.1 E.2.1 dX1_goesAhead_52 (by decide) ?_
        refine lv_goto (tgt := 57) E.1 E.2.1 dX1_goesAhead_53 (by decide) ?_
        exact e_zP E hr hlk (by simp [aheadF, b2i, c_5, c_30, c_49]) (Or.inr rfl) dX1_goesAhead_57
  · refine lv_aload_n E.1 E.2.1 dX1_goesAhead_8 rfl (lv_at hl 1 rfl) ?_
    refine g_tr (v := .int (S 30 i 0)) E hP hV hw (by omega) 0 (by decide) gw_433 rfl dX1_goesAhead_9 ?_
    refine lv_aload_n E.1 E.2.1 dX1_goesAhead_12 rfl (lv_at hl 2 rfl) ?_
    refine g_tr (v := .int (S 30 j 0)) E hP hV hw (by omega) 0 (by decide) gw_433 rfl dX1_goesAhead_13 ?_
    refine lv_icmp_le (tgt := 23) E.1 E.2.1 dX1_goesAhead_16 (by decide) (fun c_16 => ?_) (fun c_16 => ?_)
    · refine lv_iconst (v := 0) E.1 E.2.1 dX1_goesAhead_23 (by decide) ?_
      exact e_zP E hr hlk (by simp [aheadF, b2i, c_5, c_16]) (Or.inl rfl) dX1_goesAhead_24
    · refine lv_iconst (v := 1) E.1 E.2.1 dX1_goesAhead_19 (by decide) ?_
      refine lv_goto (tgt := 24) E.1 E.2.1 dX1_goesAhead_20 (by decide) ?_
      exact e_zP E hr hlk (by simp [aheadF, b2i, c_5, c_16]) (Or.inr rfl) dX1_goesAhead_24

abbrev rm_X1_waitsForItself : Room := { frames := 0, cells := 0, slots := 0, locals := 0 }
theorem k_X1_waitsForItself : Card yX1_waitsForItself cX1_waitsForItself 4 (some .boolean) 1 := ⟨gw_264, gw_12, by decide +kernel, by decide +kernel⟩
set_option maxHeartbeats 4000000 in
set_option maxRecDepth 20000 in
theorem c_X1_waitsForItself (l : Launch) {Z : Gm} {V : Nat → St} {w : Nat} {S : St} (hV : V w = S) (hw : w < 2) (i : Nat) (hi8 : i < 8) (hL : Lim S) : Met l yX1_waitsForItself (.code yX1_waitsForItself cX1_waitsForItself 4 (some .boolean) :: gG) rm_X1_waitsForItself (PW Z V [.ref (ad Z (cLn w)), .int (nI i)]) (QP (some (.int (b2i (stuckF S i))))) 0 0 (fun _ => False) := by
  refine met_of (by decide +kernel) (Nat.le_of_ble_eq_true rfl) ?_
  intro p e s m args below meth c ls E hr hlk hml hP hl
  have E : EE Z p s m args c cX1_waitsForItself RX1 := E
  have hl : lv_has ls 4 [(0, .ref (ad Z (cLn w))), (1, .int (nI i))] := hl
  have hT := hL.2.2
  have hR := hL.2.1
  have hB := hL.1
  refine lv_iload_n E.1 E.2.1 dX1_waitsForItself_0 rfl (lv_at hl 1 rfl) ?_
  refine lv_istore_n (lv' := [(2, .int (nI i)), (0, .ref (ad Z (cLn w))), (1, .int (nI i))]) E.1 E.2.1 dX1_waitsForItself_1 rfl hl (by decide) rfl (fun ls hl => ?_)
  refine lv_iconst (v := 0) E.1 E.2.1 dX1_waitsForItself_2 (by decide) ?_
  refine lv_istore_n (lv' := [(3, .int 0), (2, .int (nI i)), (0, .ref (ad Z (cLn w))), (1, .int (nI i))]) E.1 E.2.1 dX1_waitsForItself_3 rfl hl (by decide) rfl (fun ls hl => ?_)
  have loop_4 : ∀ (n_4 : Nat) (q : Nat) (o : Int32), nT S - q < n_4 → (stuckL S (nI i) (nT S - q) o = stuckF S i) → (q ≤ nT S) → ∀ (ls : Array Slot), lv_has ls 4 [(3, .int (nI q)), (2, .int o), (0, .ref (ad Z (cLn w))), (1, .int (nI i))] → W p l e rm_X1_waitsForItself s m args below meth c s.heap [] 0 0 (MQ below (QP (some (.int (b2i (stuckF S i))))) args s 0 0 (fun _ => False)) (F0 m 4 ls []) := by
    intro n_4
    induction n_4 with
    | zero => intro q o hm_4; exact absurd hm_4 (by omega)
    | succ n_4 ih_4 =>
      intro q o hm_4 ha hi  ls hl
      refine lv_iload_n E.1 E.2.1 dX1_waitsForItself_4 rfl (lv_at hl 0 rfl) ?_
      refine lv_aload_n E.1 E.2.1 dX1_waitsForItself_5 rfl (lv_at hl 2 rfl) ?_
      refine g_ln (v := .int (S 6 0 0)) E hP hV hw 6 (by decide) gw_148 rfl dX1_waitsForItself_6 ?_
      refine lv_icmp_ge (tgt := 49) E.1 E.2.1 dX1_waitsForItself_9 (by decide) (fun c_9 => ?_) (fun c_9 => ?_)
      · have hd : nT S ≤ q := lq1 (by omega) c_9
        refine lv_iconst (v := 0) E.1 E.2.1 dX1_waitsForItself_49 (by decide) ?_
        exact e_zP E hr hlk (by rw [← ha, show nT S - q = 0 from by omega]; rfl) (Or.inl rfl) dX1_waitsForItself_50
      · have hd : q < nT S := lq2 (by omega) c_9
        refine lv_iload_n E.1 E.2.1 dX1_waitsForItself_12 rfl (lv_at hl 1 rfl) ?_
        refine lv_if_lt (tgt := 24) E.1 E.2.1 dX1_waitsForItself_13 (by decide) (fun c_13 => ?_) (fun c_13 => ?_)
        · refine lv_iconst (v := 0) E.1 E.2.1 dX1_waitsForItself_24 (by decide) ?_
          exact e_zP E hr hlk (by rw [← ha, show nT S - q = (nT S - (q + 1)) + 1 from by omega]; simp [stuckL, b2i, c_9, c_13]) (Or.inl rfl) dX1_waitsForItself_25
        · refine lv_iload_n E.1 E.2.1 dX1_waitsForItself_16 rfl (lv_at hl 1 rfl) ?_
          refine lv_aload_n E.1 E.2.1 dX1_waitsForItself_17 rfl (lv_at hl 2 rfl) ?_
          refine g_ln (v := .int (S 6 0 0)) E hP hV hw 6 (by decide) gw_148 rfl dX1_waitsForItself_18 ?_
          refine lv_icmp_lt (tgt := 26) E.1 E.2.1 dX1_waitsForItself_21 (by decide) (fun c_21 => ?_) (fun c_21 => ?_)
          · refine lv_aload_n E.1 E.2.1 dX1_waitsForItself_26 rfl (lv_at hl 2 rfl) ?_
            refine g_ln E hP hV hw 5 (by decide) gw_25 rfl dX1_waitsForItself_27 ?_
            refine lv_iload_n E.1 E.2.1 dX1_waitsForItself_30 rfl (lv_at hl 1 rfl) ?_
            have hin_31 : vp_in o 8 := vinL c_13 c_21 (clamp_le hT)
            refine a_tr (k := (o.toNatClampNeg)) E hP hw rfl hin_31 dX1_waitsForItself_31 ?_
            refine g_tr (v := .int (S 44 (o.toNatClampNeg) 0)) E hP hV hw (vp_lt hin_31) 14 (by decide) gw_265 rfl dX1_waitsForItself_32 ?_
            refine lv_istore_n (lv' := [(2, .int (S 44 (o.toNatClampNeg) 0)), (3, .int (nI q)), (0, .ref (ad Z (cLn w))), (1, .int (nI i))]) E.1 E.2.1 dX1_waitsForItself_35 rfl hl (by decide) rfl (fun ls hl => ?_)
            refine lv_iload_n E.1 E.2.1 dX1_waitsForItself_36 rfl (lv_at hl 0 rfl) ?_
            refine lv_iload_n E.1 E.2.1 dX1_waitsForItself_37 rfl (lv_at hl 3 rfl) ?_
            refine lv_icmp_ne (tgt := 43) E.1 E.2.1 dX1_waitsForItself_38 (by decide) (fun c_38 => ?_) (fun c_38 => ?_)
            · refine lv_iinc (v := (nI (q + 1))) (lv' := [(3, .int (nI (q + 1))), (2, .int (S 44 (o.toNatClampNeg) 0)), (0, .ref (ad Z (cLn w))), (1, .int (nI i))]) E.1 E.2.1 dX1_waitsForItself_43 hl (k := 1) rfl (nI_1 _) (by decide) rfl (fun ls hl => ?_)
              refine lv_goto (tgt := 4) E.1 E.2.1 dX1_waitsForItself_46 (by decide) ?_
              exact ih_4 (q + 1) _ (by omega) (by rw [← ha, show nT S - q = (nT S - (q + 1)) + 1 from by omega]; simp [stuckL, c_9, c_13, c_21, c_38]) (by omega)  ls (lv_sub hl [0, 1, 2, 3] rfl)
            · refine lv_iconst (v := 1) E.1 E.2.1 dX1_waitsForItself_41 (by decide) ?_
              exact e_zP E hr hlk (by rw [← ha, show nT S - q = (nT S - (q + 1)) + 1 from by omega]; simp [stuckL, b2i, c_9, c_13, c_21, c_38]) (Or.inr rfl) dX1_waitsForItself_42
          · refine lv_iconst (v := 0) E.1 E.2.1 dX1_waitsForItself_24 (by decide) ?_
            exact e_zP E hr hlk (by rw [← ha, show nT S - q = (nT S - (q + 1)) + 1 from by omega]; simp [stuckL, b2i, c_9, c_13, c_21]) (Or.inl rfl) dX1_waitsForItself_25
  exact loop_4 (nT S + 1) 0 _ (by omega) rfl (Nat.zero_le _)  _ (lv_sub hl [0, 1, 2, 3] rfl)

abbrev rm_X1_countStuck : Room := { frames := 1, cells := 0, slots := 0, locals := 23 }
theorem k_X1_countStuck : Card yX1_countStuck cX1_countStuck 3 (some .int) 0 := ⟨gw_260, gw_12, by decide +kernel, by decide +kernel⟩
set_option maxHeartbeats 4000000 in
set_option maxRecDepth 20000 in
theorem c_X1_countStuck (l : Launch) {Z : Gm} {V : Nat → St} {w : Nat} {S : St} (hV : V w = S) (hw : w < 2) (hL : Lim S) : Met l yX1_countStuck (.code yX1_countStuck cX1_countStuck 3 (some .int) :: gG) rm_X1_countStuck (PW Z V [.ref (ad Z (cLn w))]) (QP (some (.int (nI (cntTo (stuckF S) (nT S)))))) 0 0 (fun _ => False) := by
  refine met_of (by decide +kernel) (Nat.le_of_ble_eq_true rfl) ?_
  intro p e s m args below meth c ls E hr hlk hml hP hl
  have E : EE Z p s m args c cX1_countStuck RX1 := E
  have hl : lv_has ls 3 [(0, .ref (ad Z (cLn w)))] := hl
  have hT := hL.2.2
  have hR := hL.2.1
  have hB := hL.1
  refine lv_iconst (v := 0) E.1 E.2.1 dX1_countStuck_0 (by decide) ?_
  refine lv_istore_n (lv' := [(1, .int 0), (0, .ref (ad Z (cLn w)))]) E.1 E.2.1 dX1_countStuck_1 rfl hl (by decide) rfl (fun ls hl => ?_)
  refine lv_iconst (v := 0) E.1 E.2.1 dX1_countStuck_2 (by decide) ?_
  refine lv_istore_n (lv' := [(2, .int 0), (1, .int 0), (0, .ref (ad Z (cLn w)))]) E.1 E.2.1 dX1_countStuck_3 rfl hl (by decide) rfl (fun ls hl => ?_)
  have loop_4 : ∀ (n_4 : Nat) (i : Nat) (a : Int32), nT S - i < n_4 → (a = nI (cntTo (stuckF S) i)) → (i ≤ nT S) → ∀ (ls : Array Slot), lv_has ls 3 [(2, .int (nI i)), (1, .int a), (0, .ref (ad Z (cLn w)))] → W p l e rm_X1_countStuck s m args below meth c s.heap [] 0 0 (MQ below (QP (some (.int (nI (cntTo (stuckF S) (nT S)))))) args s 0 0 (fun _ => False)) (F0 m 4 ls []) := by
    intro n_4
    induction n_4 with
    | zero => intro i a hm_4; exact absurd hm_4 (by omega)
    | succ n_4 ih_4 =>
      intro i a hm_4 ha hi  ls hl
      refine lv_iload_n E.1 E.2.1 dX1_countStuck_4 rfl (lv_at hl 0 rfl) ?_
      refine lv_aload_n E.1 E.2.1 dX1_countStuck_5 rfl (lv_at hl 2 rfl) ?_
      refine g_ln (v := .int (S 6 0 0)) E hP hV hw 6 (by decide) gw_148 rfl dX1_countStuck_6 ?_
      refine lv_icmp_ge (tgt := 29) E.1 E.2.1 dX1_countStuck_9 (by decide) (fun c_9 => ?_) (fun c_9 => ?_)
      · have hd : nT S ≤ i := lq1 (by omega) c_9
        refine lv_iload_n E.1 E.2.1 dX1_countStuck_29 rfl (lv_at hl 1 rfl) ?_
        exact e_iP E hr hlk (by rw [ha, show i = nT S from by omega]) dX1_countStuck_30
      · have hd : i < nT S := lq2 (by omega) c_9
        refine lv_aload_n E.1 E.2.1 dX1_countStuck_12 rfl (lv_at hl 2 rfl) ?_
        refine lv_iload_n E.1 E.2.1 dX1_countStuck_13 rfl (lv_at hl 0 rfl) ?_
        refine go_Pi (run_V (rest := []) E hml hl.1 (c_X1_waitsForItself l  hV hw i (by omega) hL) k_X1_waitsForItself ⟨rfl, rfl, Nat.le_of_ble_eq_true rfl, Nat.le_of_ble_eq_true rfl⟩ gw_261 gw_262 gw_263 hP (rv_ln E hP hw) rfl rfl (Nat.le_of_ble_eq_true rfl) ⟨Nat.zero_le _, Nat.zero_le _⟩ dX1_countStuck_14) ?_
        refine lv_if_eq (tgt := 23) E.1 E.2.1 dX1_countStuck_17 (by decide) (fun c_17 => ?_) (fun c_17 => ?_)
        · refine lv_iinc (v := (nI (i + 1))) (lv' := [(2, .int (nI (i + 1))), (1, .int a), (0, .ref (ad Z (cLn w)))]) E.1 E.2.1 dX1_countStuck_23 hl (k := 0) rfl (nI_1 _) (by decide) rfl (fun ls hl => ?_)
          refine lv_goto (tgt := 4) E.1 E.2.1 dX1_countStuck_26 (by decide) ?_
          exact ih_4 (i + 1) _ (by omega) (by rw [ha]; simp [cntTo, nI_1, c_9, c_17, (b2i_f c_17)]) (by omega)  ls (lv_sub hl [0, 1, 2] rfl)
        · refine lv_iinc (v := (a + 1)) (lv' := [(1, .int (a + 1)), (2, .int (nI i)), (0, .ref (ad Z (cLn w)))]) E.1 E.2.1 dX1_countStuck_20 hl (k := 1) rfl rfl (by decide) rfl (fun ls hl => ?_)
          refine lv_iinc (v := (nI (i + 1))) (lv' := [(2, .int (nI (i + 1))), (1, .int (a + 1)), (0, .ref (ad Z (cLn w)))]) E.1 E.2.1 dX1_countStuck_23 hl (k := 1) rfl (nI_1 _) (by decide) rfl (fun ls hl => ?_)
          refine lv_goto (tgt := 4) E.1 E.2.1 dX1_countStuck_26 (by decide) ?_
          exact ih_4 (i + 1) _ (by omega) (by rw [ha]; simp [cntTo, nI_1, c_9, c_17, (b2i_t c_17)]) (by omega)  ls (lv_sub hl [0, 1, 2] rfl)
  exact loop_4 (nT S + 1) 0 _ (by omega) rfl (Nat.zero_le _)  _ (lv_sub hl [0, 1, 2] rfl)

abbrev rm_X1_firstReady : Room := { frames := 2, cells := 0, slots := 0, locals := 43 }
theorem k_X1_firstReady : Card yX1_firstReady cX1_firstReady 5 (some .int) 1 := ⟨gw_427, gw_12, by decide +kernel, by decide +kernel⟩
set_option maxHeartbeats 4000000 in
set_option maxRecDepth 20000 in
theorem c_X1_firstReady (l : Launch) {Z : Gm} {V : Nat → St} {w : Nat} {S : St} (hV : V w = S) (hw : w < 2) (t : Int32) (hL : Lim S) : Met l yX1_firstReady (.code yX1_firstReady cX1_firstReady 5 (some .int) :: gG) rm_X1_firstReady (PW Z V [.ref (ad Z (cLn w)), .int t]) (QP (some (.int (fstL S t (nT S))))) 0 0 (fun _ => False) := by
  refine met_of (by decide +kernel) (Nat.le_of_ble_eq_true rfl) ?_
  intro p e s m args below meth c ls E hr hlk hml hP hl
  have E : EE Z p s m args c cX1_firstReady RX1 := E
  have hl : lv_has ls 5 [(0, .ref (ad Z (cLn w))), (1, .int t)] := hl
  have hT := hL.2.2
  have hR := hL.2.1
  have hB := hL.1
  refine lv_iconst (v := (-1)) E.1 E.2.1 dX1_firstReady_0 (by decide) ?_
  refine lv_istore_n (lv' := [(2, .int (-1)), (0, .ref (ad Z (cLn w))), (1, .int t)]) E.1 E.2.1 dX1_firstReady_1 rfl hl (by decide) rfl (fun ls hl => ?_)
  refine lv_iconst (v := 0) E.1 E.2.1 dX1_firstReady_2 (by decide) ?_
  refine lv_istore_n (lv' := [(3, .int 0), (2, .int (-1)), (0, .ref (ad Z (cLn w))), (1, .int t)]) E.1 E.2.1 dX1_firstReady_3 rfl hl (by decide) rfl (fun ls hl => ?_)
  have loop_4 : ∀ (n_4 : Nat) (i : Nat) (f : Int32), nT S - i < n_4 → (fstL S t i = f) → (i ≤ nT S) → ∀ (ls : Array Slot), lv_has ls 5 [(3, .int (nI i)), (2, .int f), (0, .ref (ad Z (cLn w))), (1, .int t)] → W p l e rm_X1_firstReady s m args below meth c s.heap [] 0 0 (MQ below (QP (some (.int (fstL S t (nT S))))) args s 0 0 (fun _ => False)) (F0 m 4 ls []) := by
    intro n_4
    induction n_4 with
    | zero => intro i f hm_4; exact absurd hm_4 (by omega)
    | succ n_4 ih_4 =>
      intro i f hm_4 ha hi  ls hl
      refine lv_iload_n E.1 E.2.1 dX1_firstReady_4 rfl (lv_at hl 0 rfl) ?_
      refine lv_aload_n E.1 E.2.1 dX1_firstReady_5 rfl (lv_at hl 2 rfl) ?_
      refine g_ln (v := .int (S 6 0 0)) E hP hV hw 6 (by decide) gw_148 rfl dX1_firstReady_6 ?_
      refine lv_icmp_ge (tgt := 77) E.1 E.2.1 dX1_firstReady_9 (by decide) (fun c_9 => ?_) (fun c_9 => ?_)
      · have hd : nT S ≤ i := lq1 (by omega) c_9
        refine lv_iload_n E.1 E.2.1 dX1_firstReady_77 rfl (lv_at hl 1 rfl) ?_
        exact e_iP E hr hlk (by rw [← ha, show i = nT S from by omega]) dX1_firstReady_78
      · have hd : i < nT S := lq2 (by omega) c_9
        refine lv_iload_n E.1 E.2.1 dX1_firstReady_12 rfl (lv_at hl 3 rfl) ?_
        refine lv_iload_n E.1 E.2.1 dX1_firstReady_13 rfl (lv_at hl 0 rfl) ?_
        refine lv_ishr E.1 E.2.1 dX1_firstReady_14 ?_
        refine lv_iconst (v := 1) E.1 E.2.1 dX1_firstReady_15 (by decide) ?_
        refine lv_iand E.1 E.2.1 dX1_firstReady_16 ?_
        refine lv_if_ne (tgt := 37) E.1 E.2.1 dX1_firstReady_17 (by decide) (fun c_17 => ?_) (fun c_17 => ?_)
        · refine lv_iconst (v := 0) E.1 E.2.1 dX1_firstReady_37 (by decide) ?_
          refine lv_istore (lv' := [(4, .int 0), (3, .int (nI i)), (2, .int f), (0, .ref (ad Z (cLn w))), (1, .int t)]) E.1 E.2.1 dX1_firstReady_38 hl (by decide) rfl (fun ls hl => ?_)
          refine lv_iload E.1 E.2.1 dX1_firstReady_40 (lv_at hl 0 rfl) ?_
          refine lv_if_eq (tgt := 71) E.1 E.2.1 dX1_firstReady_42 (by decide) (fun c_42 => ?_) (fun c_42 => ?_)
          · refine lv_iinc (v := (nI (i + 1))) (lv' := [(3, .int (nI (i + 1))), (4, .int 0), (2, .int f), (0, .ref (ad Z (cLn w))), (1, .int t)]) E.1 E.2.1 dX1_firstReady_71 hl (k := 1) rfl (nI_1 _) (by decide) rfl (fun ls hl => ?_)
            refine lv_goto (tgt := 4) E.1 E.2.1 dX1_firstReady_74 (by decide) ?_
            exact ih_4 (i + 1) _ (by omega) (by simp [fstL, dueF, ha, c_9, c_17]) (by omega)  ls (lv_sub hl [0, 2, 3, 4] rfl)
          · exact absurd (by decide) c_42
        · refine lv_aload_n E.1 E.2.1 dX1_firstReady_20 rfl (lv_at hl 2 rfl) ?_
          refine lv_aload_n E.1 E.2.1 dX1_firstReady_21 rfl (lv_at hl 2 rfl) ?_
          refine g_ln E hP hV hw 5 (by decide) gw_25 rfl dX1_firstReady_22 ?_
          refine lv_iload_n E.1 E.2.1 dX1_firstReady_25 rfl (lv_at hl 0 rfl) ?_
          refine a_tr (k := i) E hP hw (nI_clamp (by omega)) (vp_in_nI (by omega) (by omega)) dX1_firstReady_26 ?_
          refine go_Pi (run_V (rest := []) E hml hl.1 (c_X1_isReady l  hV hw (by omega)) k_X1_isReady ⟨rfl, rfl, Nat.le_of_ble_eq_true rfl, Nat.le_of_ble_eq_true rfl⟩ gw_428 gw_299 gw_300 hP (rv_ln E hP hw) rfl rfl (Nat.le_of_ble_eq_true rfl) ⟨Nat.zero_le _, Nat.zero_le _⟩ dX1_firstReady_27) ?_
          refine lv_if_eq (tgt := 37) E.1 E.2.1 dX1_firstReady_30 (by decide) (fun c_30 => ?_) (fun c_30 => ?_)
          · refine lv_iconst (v := 0) E.1 E.2.1 dX1_firstReady_37 (by decide) ?_
            refine lv_istore (lv' := [(4, .int 0), (3, .int (nI i)), (2, .int f), (0, .ref (ad Z (cLn w))), (1, .int t)]) E.1 E.2.1 dX1_firstReady_38 hl (by decide) rfl (fun ls hl => ?_)
            refine lv_iload E.1 E.2.1 dX1_firstReady_40 (lv_at hl 0 rfl) ?_
            refine lv_if_eq (tgt := 71) E.1 E.2.1 dX1_firstReady_42 (by decide) (fun c_42 => ?_) (fun c_42 => ?_)
            · refine lv_iinc (v := (nI (i + 1))) (lv' := [(3, .int (nI (i + 1))), (4, .int 0), (2, .int f), (0, .ref (ad Z (cLn w))), (1, .int t)]) E.1 E.2.1 dX1_firstReady_71 hl (k := 1) rfl (nI_1 _) (by decide) rfl (fun ls hl => ?_)
              refine lv_goto (tgt := 4) E.1 E.2.1 dX1_firstReady_74 (by decide) ?_
              exact ih_4 (i + 1) _ (by omega) (by simp [fstL, dueF, ha, c_9, c_17, c_30, (b2i_f c_30)]) (by omega)  ls (lv_sub hl [0, 2, 3, 4] rfl)
            · exact absurd (by decide) c_42
          · refine lv_iconst (v := 1) E.1 E.2.1 dX1_firstReady_33 (by decide) ?_
            refine lv_goto (tgt := 38) E.1 E.2.1 dX1_firstReady_34 (by decide) ?_
            refine lv_istore (lv' := [(4, .int 1), (3, .int (nI i)), (2, .int f), (0, .ref (ad Z (cLn w))), (1, .int t)]) E.1 E.2.1 dX1_firstReady_38 hl (by decide) rfl (fun ls hl => ?_)
            refine lv_iload E.1 E.2.1 dX1_firstReady_40 (lv_at hl 0 rfl) ?_
            refine lv_if_eq (tgt := 71) E.1 E.2.1 dX1_firstReady_42 (by decide) (fun c_42 => ?_) (fun c_42 => ?_)
            · exact absurd c_42 (by decide)
            · refine lv_iload_n E.1 E.2.1 dX1_firstReady_45 rfl (lv_at hl 2 rfl) ?_
              refine lv_iconst (v := (-1)) E.1 E.2.1 dX1_firstReady_46 (by decide) ?_
              refine lv_icmp_eq (tgt := 69) E.1 E.2.1 dX1_firstReady_47 (by decide) (fun c_47 => ?_) (fun c_47 => ?_)
              · refine lv_iload_n E.1 E.2.1 dX1_firstReady_69 rfl (lv_at hl 1 rfl) ?_
                refine lv_istore_n (lv' := [(2, .int (nI i)), (4, .int 1), (3, .int (nI i)), (0, .ref (ad Z (cLn w))), (1, .int t)]) E.1 E.2.1 dX1_firstReady_70 rfl hl (by decide) rfl (fun ls hl => ?_)
                refine lv_iinc (v := (nI (i + 1))) (lv' := [(3, .int (nI (i + 1))), (2, .int (nI i)), (4, .int 1), (0, .ref (ad Z (cLn w))), (1, .int t)]) E.1 E.2.1 dX1_firstReady_71 hl (k := 2) rfl (nI_1 _) (by decide) rfl (fun ls hl => ?_)
                refine lv_goto (tgt := 4) E.1 E.2.1 dX1_firstReady_74 (by decide) ?_
                exact ih_4 (i + 1) _ (by omega) (by simp [fstL, dueF, ha, c_9, c_17, c_30, (b2i_t c_30), c_47]) (by omega)  ls (lv_sub hl [0, 1, 3, 4] rfl)
              · refine lv_aload_n E.1 E.2.1 dX1_firstReady_50 rfl (lv_at hl 3 rfl) ?_
                refine lv_aload_n E.1 E.2.1 dX1_firstReady_51 rfl (lv_at hl 3 rfl) ?_
                refine g_ln E hP hV hw 5 (by decide) gw_25 rfl dX1_firstReady_52 ?_
                refine lv_iload_n E.1 E.2.1 dX1_firstReady_55 rfl (lv_at hl 1 rfl) ?_
                refine a_tr (k := i) E hP hw (nI_clamp (by omega)) (vp_in_nI (by omega) (by omega)) dX1_firstReady_56 ?_
                refine lv_aload_n E.1 E.2.1 dX1_firstReady_57 rfl (lv_at hl 3 rfl) ?_
                refine g_ln E hP hV hw 5 (by decide) gw_25 rfl dX1_firstReady_58 ?_
                refine lv_iload_n E.1 E.2.1 dX1_firstReady_61 rfl (lv_at hl 2 rfl) ?_
                have hin_62 : vp_in f 8 := fst_in (by omega) ha c_47
                refine a_tr (k := (f.toNatClampNeg)) E hP hw rfl hin_62 dX1_firstReady_62 ?_
                refine go_Pi (run_V (rest := []) E hml hl.1 (c_X1_goesAhead l  hV hw (by omega) (vp_lt hin_62)) k_X1_goesAhead ⟨rfl, rfl, Nat.le_of_ble_eq_true rfl, Nat.le_of_ble_eq_true rfl⟩ gw_429 gw_430 gw_431 hP (rv_ln E hP hw) rfl rfl (Nat.le_of_ble_eq_true rfl) ⟨Nat.zero_le _, Nat.zero_le _⟩ dX1_firstReady_63) ?_
                refine lv_if_eq (tgt := 71) E.1 E.2.1 dX1_firstReady_66 (by decide) (fun c_66 => ?_) (fun c_66 => ?_)
                · refine lv_iinc (v := (nI (i + 1))) (lv' := [(3, .int (nI (i + 1))), (4, .int 1), (2, .int f), (0, .ref (ad Z (cLn w))), (1, .int t)]) E.1 E.2.1 dX1_firstReady_71 hl (k := 1) rfl (nI_1 _) (by decide) rfl (fun ls hl => ?_)
                  refine lv_goto (tgt := 4) E.1 E.2.1 dX1_firstReady_74 (by decide) ?_
                  exact ih_4 (i + 1) _ (by omega) (by simp [fstL, dueF, ha, c_9, c_17, c_30, (b2i_t c_30), c_47, c_66, (b2i_f c_66)]) (by omega)  ls (lv_sub hl [0, 2, 3, 4] rfl)
                · refine lv_iload_n E.1 E.2.1 dX1_firstReady_69 rfl (lv_at hl 1 rfl) ?_
                  refine lv_istore_n (lv' := [(2, .int (nI i)), (4, .int 1), (3, .int (nI i)), (0, .ref (ad Z (cLn w))), (1, .int t)]) E.1 E.2.1 dX1_firstReady_70 rfl hl (by decide) rfl (fun ls hl => ?_)
                  refine lv_iinc (v := (nI (i + 1))) (lv' := [(3, .int (nI (i + 1))), (2, .int (nI i)), (4, .int 1), (0, .ref (ad Z (cLn w))), (1, .int t)]) E.1 E.2.1 dX1_firstReady_71 hl (k := 2) rfl (nI_1 _) (by decide) rfl (fun ls hl => ?_)
                  refine lv_goto (tgt := 4) E.1 E.2.1 dX1_firstReady_74 (by decide) ?_
                  exact ih_4 (i + 1) _ (by omega) (by simp [fstL, dueF, ha, c_9, c_17, c_30, (b2i_t c_30), c_47, c_66, (b2i_t c_66)]) (by omega)  ls (lv_sub hl [0, 1, 3, 4] rfl)
  exact loop_4 (nT S + 1) 0 _ (by omega) rfl (Nat.zero_le _)  _ (lv_sub hl [0, 1, 2, 3] rfl)
end
section
/-! What the writing functions keep. -/
theorem up_f {S : St} {f f' k k' j j' : Nat} {x : Int32} (h : f' ≠ f) : up S f k j x f' k' j' = S f' k' j' := if_neg fun q => h q.1
theorem up_k {S : St} {f f' k k' j j' : Nat} {x : Int32} (h : k' ≠ k) : up S f k j x f' k' j' = S f' k' j' := if_neg fun q => h q.2.1
theorem up_j {S : St} {f f' k k' j j' : Nat} {x : Int32} (h : j' ≠ j) : up S f k j x f' k' j' = S f' k' j' := if_neg fun q => h q.2.2
theorem up_s {S : St} {f k j : Nat} {x : Int32} : up S f k j x f k j = x := if_pos ⟨rfl, rfl, rfl⟩
def KC (S' S : St) : Prop := S' 2 0 0 = S 2 0 0 ∧ S' 4 0 0 = S 4 0 0 ∧ S' 6 0 0 = S 6 0 0
theorem KC_refl (S : St) : KC S S := ⟨rfl, rfl, rfl⟩
theorem KC_up {S' S : St} {f k j : Nat} {x : Int32} (hf : f ≠ 2 ∧ f ≠ 4 ∧ f ≠ 6) (h : KC S' S) : KC (up S' f k j x) S := ⟨(up_f (Ne.symm hf.1)).trans h.1, (up_f (Ne.symm hf.2.1)).trans h.2.1, (up_f (Ne.symm hf.2.2)).trans h.2.2⟩
theorem KC_tr {S'' S' S : St} (h1 : KC S'' S') (h : KC S' S) : KC S'' S := ⟨h1.1.trans h.1, h1.2.1.trans h.2.1, h1.2.2.trans h.2.2⟩
theorem Lim_of {S' S : St} (h : KC S' S) (hL : Lim S) : Lim S' := by
  unfold Lim nB nR nT at *
  rw [h.1, h.2.1, h.2.2]
  exact hL
theorem nT_of {S' S : St} (h : KC S' S) : nT S' = nT S := by unfold nT; rw [h.2.2]
theorem KC_iter {g : Nat → St → St} (hg : ∀ i S, KC (g i S) S) : ∀ n S, KC (iterF g n S) S
  | 0, S => KC_refl S
  | n + 1, S => KC_tr (hg n _) (KC_iter hg n S)
theorem KC_late {S' S : St} {i : Nat} {x : Int32} (h : KC S' S) : KC (beLateF S' i x) S := KC_up (by decide) h
theorem KC_wait {S' S : St} {i : Nat} {x : Int32} (h : KC S' S) : KC (waitF S' i x) S := by
  unfold waitF
  split
  · exact KC_up (by decide) (KC_up (by decide) h)
  · split
    · exact KC_up (by decide) (KC_up (by decide) h)
    · exact KC_up (by decide) (KC_up (by decide) (KC_up (by decide) h))
theorem KC_leave {S' S : St} {i : Nat} (h : KC S' S) : KC (leaveF S' i) S := by
  unfold leaveF
  split
  · exact h
  · split
    · exact h
    · exact KC_up (by decide) h
theorem KC_enter {S' S : St} {i : Nat} {x q : Int32} (h : KC S' S) : KC (enterF S' i x q) S := by
  unfold enterF
  split
  · exact h
  · split
    · exact h
    · exact KC_up (by decide) (KC_up (by decide) (KC_up (by decide) (KC_up (by decide) (KC_up (by decide) (KC_up (by decide) h)))))
theorem KC_come {S' S : St} {i : Nat} (h : KC S' S) : KC (comeF S' i) S := by
  unfold comeF comeT
  have h1 : KC (up (up (up (leaveF S' i) 38 i 0 (-1)) 35 i 0 (leaveF S' i 35 i 0 + 1)) 37 i 0 (leaveF S' i 9 0 0)) S := KC_up (by decide) (KC_up (by decide) (KC_up (by decide) (KC_leave h)))
  split
  · exact KC_late h1
  · exact KC_up (by decide) h1
theorem KC_roll {S' S : St} {i : Nat} (h : KC S' S) : KC (rollF S' i) S := by
  have key : ∀ S1, KC S1 S → KC (rollT S1 i) S := by
    intro S1 h1
    unfold rollT
    split
    · exact h1
    split
    · exact h1
    split
    · exact h1
    split
    · exact KC_come h1
    split
    · exact KC_enter (KC_leave h1)
    · exact KC_wait h1
  unfold rollF
  apply key
  split
  · exact h
  · exact KC_up (by decide) h
def lockI (S : St) (i r : Nat) : Nat → St := fun n => iterF (fun j U => if blockAtF S r (nI (j + 1)) < 0 then U else if S 2 0 0 ≤ blockAtF S r (nI (j + 1)) then U else up U 12 (blockAtF S r (nI (j + 1))).toNatClampNeg 0 (nI i)) n S
theorem lockI_ne {S : St} {i r f : Nat} (h : f ≠ 12) (k q : Nat) : ∀ n, lockI S i r n f k q = S f k q
  | 0 => rfl
  | n + 1 => by
    have ih := lockI_ne (S := S) (i := i) (r := r) h k q n
    show (if blockAtF S r (nI (n + 1)) < 0 then lockI S i r n else if S 2 0 0 ≤ blockAtF S r (nI (n + 1)) then lockI S i r n else up (lockI S i r n) 12 (blockAtF S r (nI (n + 1))).toNatClampNeg 0 (nI i)) f k q = _
    split
    · exact ih
    · split
      · exact ih
      · rw [up_f h]; exact ih
theorem KC_lock {S' S : St} {i r : Nat} (h : KC S' S) : KC (lockF S' i r) S := KC_tr (show KC (lockI S' i r _) S' from ⟨lockI_ne (by decide) _ _ _, lockI_ne (by decide) _ _ _, lockI_ne (by decide) _ _ _⟩) h
theorem KC_setOut {S' S : St} {i r : Nat} (h : KC S' S) : KC (setOutF S' i r) S := by
  unfold setOutF setOutT
  split
  · exact KC_enter (KC_late h)
  · exact KC_lock (KC_enter (KC_late h))
theorem KC_turn {S' S : St} {i : Nat} (h : KC S' S) : KC (turnF S' i) S := by
  have key : ∀ n r f, KC (turnL S' i n r f) S := by
    intro n
    induction n with
    | zero => intro r f; exact KC_wait h
    | succ n ih =>
      intro r f
      unfold turnL
      split
      · split
        · exact KC_setOut h
        · exact ih _ _
      · exact ih _ _
  exact key _ _ _
theorem KC_giveL : ∀ (n : Nat) {S' S : St} {t : Int32}, KC S' S → KC (giveL n S' t) S
  | 0, _, _, _, h => h
  | n + 1, S', S, t, h => by
    unfold giveL
    split
    · exact h
    · exact KC_giveL n (KC_turn h)
theorem KC_give {S' S : St} (h : KC S' S) : KC (giveF S') S := KC_giveL _ h
def forgetI (S : St) (n : Nat) : St := iterF (fun i U => up U 44 i 0 (-1)) n S
theorem KC_forgetI (S : St) (n : Nat) : KC (forgetI S n) S := KC_iter (fun _ S => KC_up (by decide) (KC_refl S)) n S
theorem KC_forget {S' S : St} (h : KC S' S) : KC (forgetF S') S := KC_tr (KC_forgetI S' _) h
def rollsI (S : St) (n : Nat) : St := iterF (fun i U => if onBlockF U i = true then rollF U i else U) n S
theorem KC_rollsI (S : St) (n : Nat) : KC (rollsI S n) S := KC_iter (fun i S => by
  split
  · exact KC_roll (KC_refl S)
  · exact KC_refl S) n S
theorem KC_tick {S' S : St} (h : KC S' S) : KC (tickF S') S := KC_give (KC_tr (KC_rollsI _ _) (KC_forget (KC_up (by decide) h)))
theorem KC_ticks {S' S : St} {n : Nat} (h : KC S' S) : KC (ticksF S' n) S := KC_tr (KC_iter (fun _ S => KC_tick (KC_refl S)) n S') h
theorem blockAt_cg {S' S : St} {r : Nat} (h : ∀ q, S' 24 r q = S 24 r q) (x : Int32) : blockAtF S' r x = blockAtF S r x := by unfold blockAtF; rw [h]
theorem leave_ne {S : St} {i f k q : Nat} (h : f ≠ 11) : leaveF S i f k q = S f k q := by
  unfold leaveF
  split
  · rfl
  · split
    · rfl
    · exact up_f h
end
section
/-! Line: the methods that write. -/
theorem lock_step {S S1 S2 : St} {i r j : Nat} (ha : S1 = lockI S i r j) (hb : ∀ x, blockAtF S1 r x = blockAtF S r x) (h2 : S1 2 0 0 = S 2 0 0) (h : S2 = if blockAtF S1 r (nI (j + 1)) < 0 then S1 else if S1 2 0 0 ≤ blockAtF S1 r (nI (j + 1)) then S1 else up S1 12 (blockAtF S1 r (nI (j + 1))).toNatClampNeg 0 (nI i)) : S2 = lockI S i r (j + 1) := by
  rw [h, hb, h2, ha]
  rfl
theorem rolls_step {S S2 S3 : St} {i : Nat} (hb : S2 = rollsI S i) (h : S3 = if onBlockF S2 i = true then rollF S2 i else S2) : S3 = rollsI S (i + 1) := by
  rw [h, hb]
  rfl
theorem tick_step {S S1 : St} {g : Nat} (hkc : KC S1 S) (ha : S1 = ticksF S g) : giveF (rollsI (forgetF (up S1 9 0 0 (S1 9 0 0 + 1))) (nT S)) = ticksF S (g + 1) := by
  have e : nT (forgetF (up S1 9 0 0 (S1 9 0 0 + 1))) = nT S := nT_of (KC_forget (KC_up (by decide) hkc))
  have e2 : ticksF S (g + 1) = tickF S1 := by rw [ha]; rfl
  rw [e2, tickF, rollsF, e]
  rfl
abbrev rm_X1_leaveBlock : Room := { frames := 2, cells := 0, slots := 0, locals := 43 }
theorem k_X1_leaveBlock : Card yX1_leaveBlock cX1_leaveBlock 3 none 1 := ⟨gw_388, gw_12, by decide +kernel, by decide +kernel⟩
set_option maxHeartbeats 4000000 in
set_option maxRecDepth 20000 in
theorem c_X1_leaveBlock (l : Launch) {Z : Gm} (hA : AA Z) {V : Nat → St} {V' : Nat → St} {w : Nat} {S : St} (hV : V w = S) (hw : w < 2) {i : Nat} (hi : i < 8) (hL : Lim S) (hV' : upL V w (leaveF S i) = V') : Met l yX1_leaveBlock (.code yX1_leaveBlock cX1_leaveBlock 3 none :: gG) rm_X1_leaveBlock (PW Z V [.ref (ad Z (cLn w)), .ref (ad Z (cTr w i))]) (QX Z none V') 0 0 (inW Z) := by
  refine met_of (by decide +kernel) (Nat.le_of_ble_eq_true rfl) ?_
  intro p e s m args below meth c ls E hr hlk hml hP hl
  have E : EE Z p s m args c cX1_leaveBlock RX1 := E
  have hl : lv_has ls 3 [(0, .ref (ad Z (cLn w))), (1, .ref (ad Z (cTr w i)))] := hl
  have hS : va_S (inW Z) s.heap s.heap [] := va_S.rf
  have hT := hL.2.2
  have hR := hL.2.1
  have hB := hL.1
  refine lv_aload_n E.1 E.2.1 dX1_leaveBlock_0 rfl (lv_at hl 0 rfl) ?_
  refine lv_aload_n E.1 E.2.1 dX1_leaveBlock_1 rfl (lv_at hl 1 rfl) ?_
  refine go_Pi (run_V (rest := []) E hml hl.1 (c_X1_blockUnder l  hV hw (by omega) hL) k_X1_blockUnder ⟨rfl, rfl, Nat.le_of_ble_eq_true rfl, Nat.le_of_ble_eq_true rfl⟩ gw_390 gw_294 gw_295 hP (rv_ln E hP hw) rfl rfl (Nat.le_of_ble_eq_true rfl) ⟨Nat.zero_le _, Nat.zero_le _⟩ dX1_leaveBlock_2) ?_
  refine lv_istore_n (lv' := [(2, .int (underF S i)), (0, .ref (ad Z (cLn w))), (1, .ref (ad Z (cTr w i)))]) E.1 E.2.1 dX1_leaveBlock_5 rfl hl (by decide) rfl (fun ls hl => ?_)
  refine lv_iload_n E.1 E.2.1 dX1_leaveBlock_6 rfl (lv_at hl 0 rfl) ?_
  refine lv_if_lt (tgt := 28) E.1 E.2.1 dX1_leaveBlock_7 (by decide) (fun c_7 => ?_) (fun c_7 => ?_)
  · exact e_vX E hr hlk hP hS (fin0 hV hV' (by simp [leaveF, c_7])) dX1_leaveBlock_28
  · refine lv_iload_n E.1 E.2.1 dX1_leaveBlock_10 rfl (lv_at hl 0 rfl) ?_
    refine lv_aload_n E.1 E.2.1 dX1_leaveBlock_11 rfl (lv_at hl 1 rfl) ?_
    refine g_ln (v := .int (S 2 0 0)) E hP hV hw 2 (by decide) gw_124 rfl dX1_leaveBlock_12 ?_
    refine lv_icmp_ge (tgt := 28) E.1 E.2.1 dX1_leaveBlock_15 (by decide) (fun c_15 => ?_) (fun c_15 => ?_)
    · exact e_vX E hr hlk hP hS (fin0 hV hV' (by simp [leaveF, c_7, c_15])) dX1_leaveBlock_28
    · refine lv_aload_n E.1 E.2.1 dX1_leaveBlock_18 rfl (lv_at hl 1 rfl) ?_
      refine g_ln E hP hV hw 1 (by decide) gw_21 rfl dX1_leaveBlock_19 ?_
      refine lv_iload_n E.1 E.2.1 dX1_leaveBlock_22 rfl (lv_at hl 0 rfl) ?_
      have hin_23 : vp_in (underF S i) 16 := vin c_7 c_15 (clamp_le hB)
      refine a_bk (k := ((underF S i).toNatClampNeg)) E hP hw rfl hin_23 dX1_leaveBlock_23 ?_
      refine lv_iconst (v := (-1)) E.1 E.2.1 dX1_leaveBlock_24 (by decide) ?_
      refine p_bk E hP hA hS hV hw (vp_lt hin_23) 1 (by decide) gw_389 (V' := upL V w (up S 11 ((underF S i).toNatClampNeg) 0 (-1))) rfl dX1_leaveBlock_25 (fun H locs hP hS => ?_)
      exact e_vX E hr hlk hP hS (fin1 hV' (by simp [leaveF, c_7, c_15])) dX1_leaveBlock_28

abbrev rm_X1_enter : Room := { frames := 1, cells := 0, slots := 0, locals := 21 }
theorem k_X1_enter : Card yX1_enter cX1_enter 6 none 3 := ⟨gw_410, gw_12, by decide +kernel, by decide +kernel⟩
set_option maxHeartbeats 4000000 in
set_option maxRecDepth 20000 in
theorem c_X1_enter (l : Launch) {Z : Gm} (hA : AA Z) {V : Nat → St} {V' : Nat → St} {w : Nat} {S : St} (hV : V w = S) (hw : w < 2) {i : Nat} (hi : i < 8) (x q : Int32) (hx : vp_in x 16) (hL : Lim S) (hV' : upL V w (enterF S i x q) = V') : Met l yX1_enter (.code yX1_enter cX1_enter 6 none :: gG) rm_X1_enter (PW Z V [.ref (ad Z (cLn w)), .int (nI i), .int x, .int q]) (QX Z none V') 0 0 (inW Z) := by
  refine met_of (by decide +kernel) (Nat.le_of_ble_eq_true rfl) ?_
  intro p e s m args below meth c ls E hr hlk hml hP hl
  have E : EE Z p s m args c cX1_enter RX1 := E
  have hl : lv_has ls 6 [(0, .ref (ad Z (cLn w))), (1, .int (nI i)), (2, .int x), (3, .int q)] := hl
  have hS : va_S (inW Z) s.heap s.heap [] := va_S.rf
  have hT := hL.2.2
  have hR := hL.2.1
  have hB := hL.1
  refine lv_aload_n E.1 E.2.1 dX1_enter_0 rfl (lv_at hl 0 rfl) ?_
  refine g_ln E hP hV hw 3 (by decide) gw_23 rfl dX1_enter_1 ?_
  refine lv_iload_n E.1 E.2.1 dX1_enter_4 rfl (lv_at hl 2 rfl) ?_
  have hin_5 : vp_in x 16 := hx
  refine a_rt (k := (x.toNatClampNeg)) E hP hw rfl hin_5 dX1_enter_5 ?_
  refine lv_iload_n E.1 E.2.1 dX1_enter_6 rfl (lv_at hl 3 rfl) ?_
  refine go_Pi (run_V (rest := []) E hml hl.1 (c_X2_blockAt l  hV hw (vp_lt hin_5) q) k_X2_blockAt ⟨rfl, rfl, Nat.le_of_ble_eq_true rfl, Nat.le_of_ble_eq_true rfl⟩ gw_126 gw_127 gw_128 hP (rv_rt E hP hw (vp_lt hin_5)) rfl rfl (Nat.le_of_ble_eq_true rfl) ⟨Nat.zero_le _, Nat.zero_le _⟩ dX1_enter_7) ?_
  refine lv_istore (lv' := [(4, .int (blockAtF S (x.toNatClampNeg) q)), (0, .ref (ad Z (cLn w))), (1, .int (nI i)), (2, .int x), (3, .int q)]) E.1 E.2.1 dX1_enter_10 hl (by decide) rfl (fun ls hl => ?_)
  refine lv_iload E.1 E.2.1 dX1_enter_12 (lv_at hl 0 rfl) ?_
  refine lv_if_lt (tgt := 26) E.1 E.2.1 dX1_enter_14 (by decide) (fun c_14 => ?_) (fun c_14 => ?_)
  · exact e_vX E hr hlk hP hS (fin0 hV hV' (by simp [enterF, up_f, c_14])) dX1_enter_26
  · refine lv_iload E.1 E.2.1 dX1_enter_17 (lv_at hl 0 rfl) ?_
    refine lv_aload_n E.1 E.2.1 dX1_enter_19 rfl (lv_at hl 1 rfl) ?_
    refine g_ln (v := .int (S 2 0 0)) E hP hV hw 2 (by decide) gw_124 rfl dX1_enter_20 ?_
    refine lv_icmp_lt (tgt := 27) E.1 E.2.1 dX1_enter_23 (by decide) (fun c_23 => ?_) (fun c_23 => ?_)
    · refine lv_aload_n E.1 E.2.1 dX1_enter_27 rfl (lv_at hl 1 rfl) ?_
      refine g_ln E hP hV hw 5 (by decide) gw_25 rfl dX1_enter_28 ?_
      refine lv_iload_n E.1 E.2.1 dX1_enter_31 rfl (lv_at hl 2 rfl) ?_
      refine a_tr (k := i) E hP hw (nI_clamp (by omega)) (vp_in_nI (by omega) (by omega)) dX1_enter_32 ?_
      refine lv_astore (lv' := [(5, .ref (ad Z (cTr w i))), (4, .int (blockAtF S (x.toNatClampNeg) q)), (0, .ref (ad Z (cLn w))), (1, .int (nI i)), (2, .int x), (3, .int q)]) E.1 E.2.1 dX1_enter_33 hl (by decide) rfl (fun ls hl => ?_)
      refine lv_aload E.1 E.2.1 dX1_enter_35 (lv_at hl 0 rfl) ?_
      refine lv_iconst (v := (-1)) E.1 E.2.1 dX1_enter_37 (by decide) ?_
      refine p_tr E hP hA hS hV hw (by omega) 6 (by decide) gw_159 (V' := upL V w (up S 36 i 0 (-1))) rfl dX1_enter_38 (fun H locs hP hS => ?_)
      refine lv_aload E.1 E.2.1 dX1_enter_41 (lv_at hl 0 rfl) ?_
      refine lv_iload_n E.1 E.2.1 dX1_enter_43 rfl (lv_at hl 4 rfl) ?_
      refine p_tr E hP hA hS (upL_same V w (up S 36 i 0 (-1))) hw (by omega) 8 (by decide) gw_149 (V' := upL V w (up (up S 36 i 0 (-1)) 38 i 0 x)) (upL_upL V w _ _) dX1_enter_44 (fun H locs hP hS => ?_)
      refine lv_aload E.1 E.2.1 dX1_enter_47 (lv_at hl 0 rfl) ?_
      refine lv_iload_n E.1 E.2.1 dX1_enter_49 rfl (lv_at hl 5 rfl) ?_
      refine p_tr E hP hA hS (upL_same V w (up (up S 36 i 0 (-1)) 38 i 0 x)) hw (by omega) 9 (by decide) gw_297 (V' := upL V w (up (up (up S 36 i 0 (-1)) 38 i 0 x) 39 i 0 q)) (upL_upL V w _ _) dX1_enter_50 (fun H locs hP hS => ?_)
      refine lv_aload E.1 E.2.1 dX1_enter_53 (lv_at hl 0 rfl) ?_
      refine lv_aload_n E.1 E.2.1 dX1_enter_55 rfl (lv_at hl 2 rfl) ?_
      refine g_ln E hP (upL_same V w (up (up (up S 36 i 0 (-1)) 38 i 0 x) 39 i 0 q)) hw 1 (by decide) gw_21 rfl dX1_enter_56 ?_
      refine lv_iload E.1 E.2.1 dX1_enter_59 (lv_at hl 1 rfl) ?_
      have hin_61 : vp_in (blockAtF S (x.toNatClampNeg) q) 16 := vinL c_14 c_23 (clamp_le hB)
      refine a_bk (k := ((blockAtF S (x.toNatClampNeg) q).toNatClampNeg)) E hP hw rfl hin_61 dX1_enter_61 ?_
      refine g_bk (v := .int (S 10 ((blockAtF S (x.toNatClampNeg) q).toNatClampNeg) 0)) E hP (upL_same V w (up (up (up S 36 i 0 (-1)) 38 i 0 x) 39 i 0 q)) hw (vp_lt hin_61) 0 (by decide) gw_125 (by first | rfl | simp [fBk, up_f, up_s]) dX1_enter_62 ?_
      refine lv_aload E.1 E.2.1 dX1_enter_65 (lv_at hl 0 rfl) ?_
      refine g_tr (v := .int (S 31 i 0)) E hP (upL_same V w (up (up (up S 36 i 0 (-1)) 38 i 0 x) 39 i 0 q)) hw (by omega) 1 (by decide) gw_411 (by first | rfl | simp [fTr, up_f, up_s]) dX1_enter_67 ?_
      refine lv_imul E.1 E.2.1 dX1_enter_70 ?_
      refine p_tr E hP hA hS (upL_same V w (up (up (up S 36 i 0 (-1)) 38 i 0 x) 39 i 0 q)) hw (by omega) 10 (by decide) gw_380 (V' := upL V w (up (up (up (up S 36 i 0 (-1)) 38 i 0 x) 39 i 0 q) 40 i 0 ((S 10 ((blockAtF S (x.toNatClampNeg) q).toNatClampNeg) 0) * (S 31 i 0)))) (upL_upL V w _ _) dX1_enter_71 (fun H locs hP hS => ?_)
      refine lv_aload_n E.1 E.2.1 dX1_enter_74 rfl (lv_at hl 2 rfl) ?_
      refine g_ln E hP (upL_same V w (up (up (up (up S 36 i 0 (-1)) 38 i 0 x) 39 i 0 q) 40 i 0 ((S 10 ((blockAtF S (x.toNatClampNeg) q).toNatClampNeg) 0) * (S 31 i 0)))) hw 1 (by decide) gw_21 rfl dX1_enter_75 ?_
      refine lv_iload E.1 E.2.1 dX1_enter_78 (lv_at hl 1 rfl) ?_
      have hin_80 : vp_in (blockAtF S (x.toNatClampNeg) q) 16 := vinL c_14 c_23 (clamp_le hB)
      refine a_bk (k := ((blockAtF S (x.toNatClampNeg) q).toNatClampNeg)) E hP hw rfl hin_80 dX1_enter_80 ?_
      refine lv_iload_n E.1 E.2.1 dX1_enter_81 rfl (lv_at hl 3 rfl) ?_
      refine p_bk E hP hA hS (upL_same V w (up (up (up (up S 36 i 0 (-1)) 38 i 0 x) 39 i 0 q) 40 i 0 ((S 10 ((blockAtF S (x.toNatClampNeg) q).toNatClampNeg) 0) * (S 31 i 0)))) hw (vp_lt hin_80) 1 (by decide) gw_389 (V' := upL V w (up (up (up (up (up S 36 i 0 (-1)) 38 i 0 x) 39 i 0 q) 40 i 0 ((S 10 ((blockAtF S (x.toNatClampNeg) q).toNatClampNeg) 0) * (S 31 i 0))) 11 ((blockAtF S (x.toNatClampNeg) q).toNatClampNeg) 0 (nI i))) (upL_upL V w _ _) dX1_enter_82 (fun H locs hP hS => ?_)
      refine lv_aload_n E.1 E.2.1 dX1_enter_85 rfl (lv_at hl 2 rfl) ?_
      refine g_ln E hP (upL_same V w (up (up (up (up (up S 36 i 0 (-1)) 38 i 0 x) 39 i 0 q) 40 i 0 ((S 10 ((blockAtF S (x.toNatClampNeg) q).toNatClampNeg) 0) * (S 31 i 0))) 11 ((blockAtF S (x.toNatClampNeg) q).toNatClampNeg) 0 (nI i))) hw 1 (by decide) gw_21 rfl dX1_enter_86 ?_
      refine lv_iload E.1 E.2.1 dX1_enter_89 (lv_at hl 1 rfl) ?_
      have hin_91 : vp_in (blockAtF S (x.toNatClampNeg) q) 16 := vinL c_14 c_23 (clamp_le hB)
      refine a_bk (k := ((blockAtF S (x.toNatClampNeg) q).toNatClampNeg)) E hP hw rfl hin_91 dX1_enter_91 ?_
      refine lv_iconst (v := (-1)) E.1 E.2.1 dX1_enter_92 (by decide) ?_
      refine p_bk E hP hA hS (upL_same V w (up (up (up (up (up S 36 i 0 (-1)) 38 i 0 x) 39 i 0 q) 40 i 0 ((S 10 ((blockAtF S (x.toNatClampNeg) q).toNatClampNeg) 0) * (S 31 i 0))) 11 ((blockAtF S (x.toNatClampNeg) q).toNatClampNeg) 0 (nI i))) hw (vp_lt hin_91) 2 (by decide) gw_405 (V' := upL V w (up (up (up (up (up (up S 36 i 0 (-1)) 38 i 0 x) 39 i 0 q) 40 i 0 ((S 10 ((blockAtF S (x.toNatClampNeg) q).toNatClampNeg) 0) * (S 31 i 0))) 11 ((blockAtF S (x.toNatClampNeg) q).toNatClampNeg) 0 (nI i)) 12 ((blockAtF S (x.toNatClampNeg) q).toNatClampNeg) 0 (-1))) (upL_upL V w _ _) dX1_enter_93 (fun H locs hP hS => ?_)
      exact e_vX E hr hlk hP hS (fin1 hV' (by simp [enterF, up_f, c_14, c_23])) dX1_enter_96
    · exact e_vX E hr hlk hP hS (fin0 hV hV' (by simp [enterF, up_f, c_14, c_23])) dX1_enter_26

abbrev rm_X1_comeToStation : Room := { frames := 3, cells := 0, slots := 0, locals := 65 }
theorem k_X1_comeToStation : Card yX1_comeToStation cX1_comeToStation 2 none 1 := ⟨gw_384, gw_12, by decide +kernel, by decide +kernel⟩
set_option maxHeartbeats 4000000 in
set_option maxRecDepth 20000 in
theorem c_X1_comeToStation (l : Launch) {Z : Gm} (hA : AA Z) {V : Nat → St} {V' : Nat → St} {w : Nat} {S : St} (hV : V w = S) (hw : w < 2) {i : Nat} (hi : i < 8) (hL : Lim S) (hV' : upL V w (comeF S i) = V') : Met l yX1_comeToStation (.code yX1_comeToStation cX1_comeToStation 2 none :: gG) rm_X1_comeToStation (PW Z V [.ref (ad Z (cLn w)), .ref (ad Z (cTr w i))]) (QX Z none V') 0 0 (inW Z) := by
  refine met_of (by decide +kernel) (Nat.le_of_ble_eq_true rfl) ?_
  intro p e s m args below meth c ls E hr hlk hml hP hl
  have E : EE Z p s m args c cX1_comeToStation RX1 := E
  have hl : lv_has ls 2 [(0, .ref (ad Z (cLn w))), (1, .ref (ad Z (cTr w i)))] := hl
  have hS : va_S (inW Z) s.heap s.heap [] := va_S.rf
  have hT := hL.2.2
  have hR := hL.2.1
  have hB := hL.1
  refine lv_aload_n E.1 E.2.1 dX1_comeToStation_0 rfl (lv_at hl 0 rfl) ?_
  refine lv_aload_n E.1 E.2.1 dX1_comeToStation_1 rfl (lv_at hl 1 rfl) ?_
  refine go_Xv (run_V (rest := []) E hml hl.1 (c_X1_leaveBlock l hA (V' := upL V w (leaveF S i)) hV hw (by omega) hL rfl) k_X1_leaveBlock ⟨rfl, rfl, Nat.le_of_ble_eq_true rfl, Nat.le_of_ble_eq_true rfl⟩ gw_385 gw_386 gw_387 hP (rv_ln E hP hw) rfl rfl (Nat.le_of_ble_eq_true rfl) ⟨Nat.zero_le _, Nat.zero_le _⟩ dX1_comeToStation_2) hS (fun H locs hP hS => ?_)
  refine lv_aload_n E.1 E.2.1 dX1_comeToStation_5 rfl (lv_at hl 1 rfl) ?_
  refine lv_iconst (v := (-1)) E.1 E.2.1 dX1_comeToStation_6 (by decide) ?_
  refine p_tr E hP hA hS (upL_same V w (leaveF S i)) hw (by omega) 8 (by decide) gw_149 (V' := upL V w (up (leaveF S i) 38 i 0 (-1))) (upL_upL V w _ _) dX1_comeToStation_7 (fun H locs hP hS => ?_)
  refine lv_aload_n E.1 E.2.1 dX1_comeToStation_10 rfl (lv_at hl 1 rfl) ?_
  refine lv_dup E.1 E.2.1 dX1_comeToStation_11 rfl ?_
  refine g_tr (v := .int ((leaveF S i) 35 i 0)) E hP (upL_same V w (up (leaveF S i) 38 i 0 (-1))) hw (by omega) 5 (by decide) gw_302 (by first | rfl | simp [fTr, up_f, up_s]) dX1_comeToStation_12 ?_
  refine lv_iconst (v := 1) E.1 E.2.1 dX1_comeToStation_15 (by decide) ?_
  refine lv_iadd E.1 E.2.1 dX1_comeToStation_16 ?_
  refine p_tr E hP hA hS (upL_same V w (up (leaveF S i) 38 i 0 (-1))) hw (by omega) 5 (by decide) gw_302 (V' := upL V w (up (up (leaveF S i) 38 i 0 (-1)) 35 i 0 (((leaveF S i) 35 i 0) + 1))) (upL_upL V w _ _) dX1_comeToStation_17 (fun H locs hP hS => ?_)
  refine lv_aload_n E.1 E.2.1 dX1_comeToStation_20 rfl (lv_at hl 1 rfl) ?_
  refine lv_aload_n E.1 E.2.1 dX1_comeToStation_21 rfl (lv_at hl 0 rfl) ?_
  refine g_ln (v := .int ((leaveF S i) 9 0 0)) E hP (upL_same V w (up (up (leaveF S i) 38 i 0 (-1)) 35 i 0 (((leaveF S i) 35 i 0) + 1))) hw 9 (by decide) gw_278 (by first | rfl | simp [fLn, up_f, up_s]) dX1_comeToStation_22 ?_
  refine p_tr E hP hA hS (upL_same V w (up (up (leaveF S i) 38 i 0 (-1)) 35 i 0 (((leaveF S i) 35 i 0) + 1))) hw (by omega) 7 (by decide) gw_303 (V' := upL V w (up (up (up (leaveF S i) 38 i 0 (-1)) 35 i 0 (((leaveF S i) 35 i 0) + 1)) 37 i 0 ((leaveF S i) 9 0 0))) (upL_upL V w _ _) dX1_comeToStation_25 (fun H locs hP hS => ?_)
  refine lv_aload_n E.1 E.2.1 dX1_comeToStation_28 rfl (lv_at hl 1 rfl) ?_
  refine go_Pi (run_V (rest := []) E hml hl.1 (c_X3_isAtLastStop l  (upL_same V w (up (up (up (leaveF S i) 38 i 0 (-1)) 35 i 0 (((leaveF S i) 35 i 0) + 1)) 37 i 0 ((leaveF S i) 9 0 0))) hw (by omega)) k_X3_isAtLastStop ⟨rfl, rfl, Nat.le_of_ble_eq_true rfl, Nat.le_of_ble_eq_true rfl⟩ gw_305 gw_306 gw_307 hP (rv_tr E hP hw (by omega)) rfl rfl (Nat.le_of_ble_eq_true rfl) ⟨Nat.zero_le _, Nat.zero_le _⟩ dX1_comeToStation_29) ?_
  refine lv_if_eq (tgt := 46) E.1 E.2.1 dX1_comeToStation_32 (by decide) (fun c_32 => ?_) (fun c_32 => ?_)
  · refine lv_aload_n E.1 E.2.1 dX1_comeToStation_46 rfl (lv_at hl 1 rfl) ?_
    refine lv_aload_n E.1 E.2.1 dX1_comeToStation_47 rfl (lv_at hl 1 rfl) ?_
    refine lv_aload_n E.1 E.2.1 dX1_comeToStation_48 rfl (lv_at hl 1 rfl) ?_
    refine g_tr (v := .int (((leaveF S i) 35 i 0) + 1)) E hP (upL_same V w (up (up (up (leaveF S i) 38 i 0 (-1)) 35 i 0 (((leaveF S i) 35 i 0) + 1)) 37 i 0 ((leaveF S i) 9 0 0))) hw (by omega) 5 (by decide) gw_302 (by first | rfl | simp [fTr, up_f, up_s]) dX1_comeToStation_49 ?_
    refine go_Pi (run_V (rest := [.ref (ad Z (cTr w i))]) E hml hl.1 (c_X3_stationOf l  (upL_same V w (up (up (up (leaveF S i) 38 i 0 (-1)) 35 i 0 (((leaveF S i) 35 i 0) + 1)) 37 i 0 ((leaveF S i) 9 0 0))) hw (by omega) (((leaveF S i) 35 i 0) + 1)) k_X3_stationOf ⟨rfl, rfl, Nat.le_of_ble_eq_true rfl, Nat.le_of_ble_eq_true rfl⟩ gw_400 gw_202 gw_203 hP (rv_tr E hP hw (by omega)) rfl rfl (Nat.le_of_ble_eq_true rfl) ⟨Nat.zero_le _, Nat.zero_le _⟩ dX1_comeToStation_52) ?_
    refine p_tr E hP hA hS (upL_same V w (up (up (up (leaveF S i) 38 i 0 (-1)) 35 i 0 (((leaveF S i) 35 i 0) + 1)) 37 i 0 ((leaveF S i) 9 0 0))) hw (by omega) 6 (by decide) gw_159 (V' := upL V w (up (up (up (up (leaveF S i) 38 i 0 (-1)) 35 i 0 (((leaveF S i) 35 i 0) + 1)) 37 i 0 ((leaveF S i) 9 0 0)) 36 i 0 (stationF (up (up (up (leaveF S i) 38 i 0 (-1)) 35 i 0 (((leaveF S i) 35 i 0) + 1)) 37 i 0 ((leaveF S i) 9 0 0)) i (((leaveF S i) 35 i 0) + 1)))) (upL_upL V w _ _) dX1_comeToStation_55 (fun H locs hP hS => ?_)
    exact e_vX E hr hlk hP hS (fin1 hV' (by simp [comeF, comeT, up_f, up_s, c_32, (b2i_f c_32)])) dX1_comeToStation_58
  · refine lv_aload_n E.1 E.2.1 dX1_comeToStation_35 rfl (lv_at hl 1 rfl) ?_
    refine lv_aload_n E.1 E.2.1 dX1_comeToStation_36 rfl (lv_at hl 0 rfl) ?_
    refine g_ln (v := .int ((leaveF S i) 9 0 0)) E hP (upL_same V w (up (up (up (leaveF S i) 38 i 0 (-1)) 35 i 0 (((leaveF S i) 35 i 0) + 1)) 37 i 0 ((leaveF S i) 9 0 0))) hw 9 (by decide) gw_278 (by first | rfl | simp [fLn, up_f, up_s]) dX1_comeToStation_37 ?_
    refine go_Xv (run_V (rest := []) E hml hl.1 (c_X3_beLate l hA (V' := upL V w (beLateF (up (up (up (leaveF S i) 38 i 0 (-1)) 35 i 0 (((leaveF S i) 35 i 0) + 1)) 37 i 0 ((leaveF S i) 9 0 0)) i ((leaveF S i) 9 0 0))) (upL_same V w (up (up (up (leaveF S i) 38 i 0 (-1)) 35 i 0 (((leaveF S i) 35 i 0) + 1)) 37 i 0 ((leaveF S i) 9 0 0))) hw (by omega) ((leaveF S i) 9 0 0) (upL_upL V w _ _)) k_X3_beLate ⟨rfl, rfl, Nat.le_of_ble_eq_true rfl, Nat.le_of_ble_eq_true rfl⟩ gw_391 gw_392 gw_393 hP (rv_tr E hP hw (by omega)) rfl rfl (Nat.le_of_ble_eq_true rfl) ⟨Nat.zero_le _, Nat.zero_le _⟩ dX1_comeToStation_40) hS (fun H locs hP hS => ?_)
    refine lv_goto (tgt := 58) E.1 E.2.1 dX1_comeToStation_43 (by decide) ?_
    exact e_vX E hr hlk hP hS (fin1 hV' (by simp [comeF, comeT, up_f, up_s, c_32, (b2i_t c_32)])) dX1_comeToStation_58

abbrev rm_X1_roll : Room := { frames := 4, cells := 0, slots := 0, locals := 86 }
theorem k_X1_roll : Card yX1_roll cX1_roll 5 none 1 := ⟨gw_379, gw_12, by decide +kernel, by decide +kernel⟩
set_option maxHeartbeats 4000000 in
set_option maxRecDepth 20000 in
theorem c_X1_roll (l : Launch) {Z : Gm} (hA : AA Z) {V : Nat → St} {V' : Nat → St} {w : Nat} {S : St} (hV : V w = S) (hw : w < 2) (i : Nat) (hi : i < 8) (hL : Lim S) (hV' : upL V w (rollF S i) = V') : Met l yX1_roll (.code yX1_roll cX1_roll 5 none :: gG) rm_X1_roll (PW Z V [.ref (ad Z (cLn w)), .int (nI i)]) (QX Z none V') 0 0 (inW Z) := by
  refine met_of (by decide +kernel) (Nat.le_of_ble_eq_true rfl) ?_
  intro p e s m args below meth c ls E hr hlk hml hP hl
  have E : EE Z p s m args c cX1_roll RX1 := E
  have hl : lv_has ls 5 [(0, .ref (ad Z (cLn w))), (1, .int (nI i))] := hl
  have hS : va_S (inW Z) s.heap s.heap [] := va_S.rf
  have hT := hL.2.2
  have hR := hL.2.1
  have hB := hL.1
  refine lv_aload_n E.1 E.2.1 dX1_roll_0 rfl (lv_at hl 0 rfl) ?_
  refine g_ln E hP hV hw 5 (by decide) gw_25 rfl dX1_roll_1 ?_
  refine lv_iload_n E.1 E.2.1 dX1_roll_4 rfl (lv_at hl 1 rfl) ?_
  refine a_tr (k := i) E hP hw (nI_clamp (by omega)) (vp_in_nI (by omega) (by omega)) dX1_roll_5 ?_
  refine lv_astore_n (lv' := [(2, .ref (ad Z (cTr w i))), (0, .ref (ad Z (cLn w))), (1, .int (nI i))]) E.1 E.2.1 dX1_roll_6 rfl hl (by decide) rfl (fun ls hl => ?_)
  refine lv_aload_n E.1 E.2.1 dX1_roll_7 rfl (lv_at hl 0 rfl) ?_
  refine g_tr (v := .int (S 40 i 0)) E hP hV hw (by omega) 10 (by decide) gw_380 rfl dX1_roll_8 ?_
  refine lv_if_le (tgt := 24) E.1 E.2.1 dX1_roll_11 (by decide) (fun c_11 => ?_) (fun c_11 => ?_)
  · refine lv_aload_n E.1 E.2.1 dX1_roll_24 rfl (lv_at hl 0 rfl) ?_
    refine g_tr (v := .int (S 40 i 0)) E hP hV hw (by omega) 10 (by decide) gw_380 rfl dX1_roll_25 ?_
    refine lv_if_gt (tgt := 49) E.1 E.2.1 dX1_roll_28 (by decide) (fun c_28 => ?_) (fun c_28 => ?_)
    · exact e_vX E hr hlk hP hS (fin0 hV hV' (by simp [rollF, rollT, up_f, up_s, c_11, c_28])) dX1_roll_49
    · refine lv_aload_n E.1 E.2.1 dX1_roll_31 rfl (lv_at hl 0 rfl) ?_
      refine g_tr (v := .int (S 38 i 0)) E hP hV hw (by omega) 8 (by decide) gw_149 rfl dX1_roll_32 ?_
      refine lv_if_lt (tgt := 49) E.1 E.2.1 dX1_roll_35 (by decide) (fun c_35 => ?_) (fun c_35 => ?_)
      · exact e_vX E hr hlk hP hS (fin0 hV hV' (by simp [rollF, rollT, up_f, up_s, c_11, c_28, c_35])) dX1_roll_49
      · refine lv_aload_n E.1 E.2.1 dX1_roll_38 rfl (lv_at hl 0 rfl) ?_
        refine g_tr (v := .int (S 38 i 0)) E hP hV hw (by omega) 8 (by decide) gw_149 rfl dX1_roll_39 ?_
        refine lv_aload_n E.1 E.2.1 dX1_roll_42 rfl (lv_at hl 1 rfl) ?_
        refine g_ln (v := .int (S 4 0 0)) E hP hV hw 4 (by decide) gw_164 rfl dX1_roll_43 ?_
        refine lv_icmp_lt (tgt := 50) E.1 E.2.1 dX1_roll_46 (by decide) (fun c_46 => ?_) (fun c_46 => ?_)
        · refine lv_aload_n E.1 E.2.1 dX1_roll_50 rfl (lv_at hl 1 rfl) ?_
          refine g_ln E hP hV hw 3 (by decide) gw_23 rfl dX1_roll_51 ?_
          refine lv_aload_n E.1 E.2.1 dX1_roll_54 rfl (lv_at hl 0 rfl) ?_
          refine g_tr (v := .int (S 38 i 0)) E hP hV hw (by omega) 8 (by decide) gw_149 rfl dX1_roll_55 ?_
          have hin_58 : vp_in (S 38 i 0) 16 := vinL c_35 c_46 (clamp_le hR)
          refine a_rt (k := ((S 38 i 0).toNatClampNeg)) E hP hw rfl hin_58 dX1_roll_58 ?_
          refine lv_astore_n (lv' := [(3, .ref (ad Z (cRt w ((S 38 i 0).toNatClampNeg)))), (2, .ref (ad Z (cTr w i))), (0, .ref (ad Z (cLn w))), (1, .int (nI i))]) E.1 E.2.1 dX1_roll_59 rfl hl (by decide) rfl (fun ls hl => ?_)
          refine lv_aload_n E.1 E.2.1 dX1_roll_60 rfl (lv_at hl 1 rfl) ?_
          refine g_tr (v := .int (S 39 i 0)) E hP hV hw (by omega) 9 (by decide) gw_297 rfl dX1_roll_61 ?_
          refine lv_iconst (v := 1) E.1 E.2.1 dX1_roll_64 (by decide) ?_
          refine lv_iadd E.1 E.2.1 dX1_roll_65 ?_
          refine lv_istore (lv' := [(4, .int ((S 39 i 0) + 1)), (3, .ref (ad Z (cRt w ((S 38 i 0).toNatClampNeg)))), (2, .ref (ad Z (cTr w i))), (0, .ref (ad Z (cLn w))), (1, .int (nI i))]) E.1 E.2.1 dX1_roll_66 hl (by decide) rfl (fun ls hl => ?_)
          refine lv_iload E.1 E.2.1 dX1_roll_68 (lv_at hl 0 rfl) ?_
          refine lv_aload_n E.1 E.2.1 dX1_roll_70 rfl (lv_at hl 1 rfl) ?_
          refine g_rt (v := .int (S 23 ((S 38 i 0).toNatClampNeg) 0)) E hP hV hw (vp_lt hin_58) 3 (by decide) gw_123 rfl dX1_roll_71 ?_
          refine lv_icmp_lt (tgt := 85) E.1 E.2.1 dX1_roll_74 (by decide) (fun c_74 => ?_) (fun c_74 => ?_)
          · refine lv_aload_n E.1 E.2.1 dX1_roll_85 rfl (lv_at hl 3 rfl) ?_
            refine lv_aload_n E.1 E.2.1 dX1_roll_86 rfl (lv_at hl 1 rfl) ?_
            refine lv_iload E.1 E.2.1 dX1_roll_87 (lv_at hl 0 rfl) ?_
            refine go_Pi (run_V (rest := [.ref (ad Z (cLn w))]) E hml hl.1 (c_X2_blockAt l  hV hw (vp_lt hin_58) ((S 39 i 0) + 1)) k_X2_blockAt ⟨rfl, rfl, Nat.le_of_ble_eq_true rfl, Nat.le_of_ble_eq_true rfl⟩ gw_126 gw_127 gw_128 hP (rv_rt E hP hw (vp_lt hin_58)) rfl rfl (Nat.le_of_ble_eq_true rfl) ⟨Nat.zero_le _, Nat.zero_le _⟩ dX1_roll_89) ?_
            refine lv_iload_n E.1 E.2.1 dX1_roll_92 rfl (lv_at hl 4 rfl) ?_
            refine go_Pi (run_V (rest := []) E hml hl.1 (c_X1_isClearFor l  hV hw (blockAtF S ((S 38 i 0).toNatClampNeg) ((S 39 i 0) + 1)) (nI i) hL) k_X1_isClearFor ⟨rfl, rfl, Nat.le_of_ble_eq_true rfl, Nat.le_of_ble_eq_true rfl⟩ gw_401 gw_402 gw_403 hP (rv_ln E hP hw) rfl rfl (Nat.le_of_ble_eq_true rfl) ⟨Nat.zero_le _, Nat.zero_le _⟩ dX1_roll_93) ?_
            refine lv_if_eq (tgt := 118) E.1 E.2.1 dX1_roll_96 (by decide) (fun c_96 => ?_) (fun c_96 => ?_)
            · refine lv_aload_n E.1 E.2.1 dX1_roll_118 rfl (lv_at hl 2 rfl) ?_
              refine lv_aload_n E.1 E.2.1 dX1_roll_119 rfl (lv_at hl 3 rfl) ?_
              refine lv_aload_n E.1 E.2.1 dX1_roll_120 rfl (lv_at hl 1 rfl) ?_
              refine lv_iload E.1 E.2.1 dX1_roll_121 (lv_at hl 0 rfl) ?_
              refine go_Pi (run_V (rest := [.ref (ad Z (cLn w)), .ref (ad Z (cTr w i))]) E hml hl.1 (c_X2_blockAt l  hV hw (vp_lt hin_58) ((S 39 i 0) + 1)) k_X2_blockAt ⟨rfl, rfl, Nat.le_of_ble_eq_true rfl, Nat.le_of_ble_eq_true rfl⟩ gw_126 gw_127 gw_128 hP (rv_rt E hP hw (vp_lt hin_58)) rfl rfl (Nat.le_of_ble_eq_true rfl) ⟨Nat.zero_le _, Nat.zero_le _⟩ dX1_roll_123) ?_
              refine lv_iload_n E.1 E.2.1 dX1_roll_126 rfl (lv_at hl 4 rfl) ?_
              refine go_Pi (run_V (rest := [.ref (ad Z (cTr w i))]) E hml hl.1 (c_X1_trainInTheWay l  hV hw (blockAtF S ((S 38 i 0).toNatClampNeg) ((S 39 i 0) + 1)) (nI i) hL) k_X1_trainInTheWay ⟨rfl, rfl, Nat.le_of_ble_eq_true rfl, Nat.le_of_ble_eq_true rfl⟩ gw_412 gw_413 gw_414 hP (rv_ln E hP hw) rfl rfl (Nat.le_of_ble_eq_true rfl) ⟨Nat.zero_le _, Nat.zero_le _⟩ dX1_roll_127) ?_
              refine go_Xv (run_V (rest := []) E hml hl.1 (c_X3_waitOneTick l hA (V' := upL V w (waitF S i (inWayF S (blockAtF S ((S 38 i 0).toNatClampNeg) ((S 39 i 0) + 1)) (nI i)))) hV hw (by omega) (inWayF S (blockAtF S ((S 38 i 0).toNatClampNeg) ((S 39 i 0) + 1)) (nI i)) rfl) k_X3_waitOneTick ⟨rfl, rfl, Nat.le_of_ble_eq_true rfl, Nat.le_of_ble_eq_true rfl⟩ gw_416 gw_417 gw_418 hP (rv_tr E hP hw (by omega)) rfl rfl (Nat.le_of_ble_eq_true rfl) ⟨Nat.zero_le _, Nat.zero_le _⟩ dX1_roll_130) hS (fun H locs hP hS => ?_)
              exact e_vX E hr hlk hP hS (fin1 hV' (by simp [rollF, rollT, up_f, up_s, c_11, c_28, c_35, c_46, c_74, c_96, (b2i_f c_96)])) dX1_roll_133
            · refine lv_aload_n E.1 E.2.1 dX1_roll_99 rfl (lv_at hl 3 rfl) ?_
              refine lv_aload_n E.1 E.2.1 dX1_roll_100 rfl (lv_at hl 2 rfl) ?_
              refine go_Xv (run_V (rest := []) E hml hl.1 (c_X1_leaveBlock l hA (V' := upL V w (leaveF S i)) hV hw (by omega) hL rfl) k_X1_leaveBlock ⟨rfl, rfl, Nat.le_of_ble_eq_true rfl, Nat.le_of_ble_eq_true rfl⟩ gw_385 gw_386 gw_387 hP (rv_ln E hP hw) rfl rfl (Nat.le_of_ble_eq_true rfl) ⟨Nat.zero_le _, Nat.zero_le _⟩ dX1_roll_101) hS (fun H locs hP hS => ?_)
              refine lv_aload_n E.1 E.2.1 dX1_roll_104 rfl (lv_at hl 3 rfl) ?_
              refine lv_iload_n E.1 E.2.1 dX1_roll_105 rfl (lv_at hl 4 rfl) ?_
              refine lv_aload_n E.1 E.2.1 dX1_roll_106 rfl (lv_at hl 2 rfl) ?_
              refine g_tr (v := .int ((leaveF S i) 38 i 0)) E hP (upL_same V w (leaveF S i)) hw (by omega) 8 (by decide) gw_149 rfl dX1_roll_107 ?_
              refine lv_iload E.1 E.2.1 dX1_roll_110 (lv_at hl 0 rfl) ?_
              refine go_Xv (run_V (rest := []) E hml hl.1 (c_X1_enter l hA (V' := upL V w (enterF (leaveF S i) i ((leaveF S i) 38 i 0) ((S 39 i 0) + 1))) (upL_same V w (leaveF S i)) hw (by omega) ((leaveF S i) 38 i 0) ((S 39 i 0) + 1) (by rw [leave_ne (by decide)]; exact hin_58) (Lim_of (KC_leave (KC_refl _)) hL) (upL_upL V w _ _)) k_X1_enter ⟨rfl, rfl, Nat.le_of_ble_eq_true rfl, Nat.le_of_ble_eq_true rfl⟩ gw_407 gw_408 gw_409 hP (rv_ln E hP hw) rfl rfl (Nat.le_of_ble_eq_true rfl) ⟨Nat.zero_le _, Nat.zero_le _⟩ dX1_roll_112) hS (fun H locs hP hS => ?_)
              refine lv_goto (tgt := 133) E.1 E.2.1 dX1_roll_115 (by decide) ?_
              exact e_vX E hr hlk hP hS (fin1 hV' (by simp [rollF, rollT, up_f, up_s, c_11, c_28, c_35, c_46, c_74, c_96, (b2i_t c_96)])) dX1_roll_133
          · refine lv_aload_n E.1 E.2.1 dX1_roll_77 rfl (lv_at hl 3 rfl) ?_
            refine lv_aload_n E.1 E.2.1 dX1_roll_78 rfl (lv_at hl 2 rfl) ?_
            refine go_Xv (run_V (rest := []) E hml hl.1 (c_X1_comeToStation l hA (V' := upL V w (comeF S i)) hV hw (by omega) hL rfl) k_X1_comeToStation ⟨rfl, rfl, Nat.le_of_ble_eq_true rfl, Nat.le_of_ble_eq_true rfl⟩ gw_381 gw_382 gw_383 hP (rv_ln E hP hw) rfl rfl (Nat.le_of_ble_eq_true rfl) ⟨Nat.zero_le _, Nat.zero_le _⟩ dX1_roll_79) hS (fun H locs hP hS => ?_)
            refine lv_goto (tgt := 133) E.1 E.2.1 dX1_roll_82 (by decide) ?_
            exact e_vX E hr hlk hP hS (fin1 hV' (by simp [rollF, rollT, up_f, up_s, c_11, c_28, c_35, c_46, c_74])) dX1_roll_133
        · exact e_vX E hr hlk hP hS (fin0 hV hV' (by simp [rollF, rollT, up_f, up_s, c_11, c_28, c_35, c_46])) dX1_roll_49
  · refine lv_aload_n E.1 E.2.1 dX1_roll_14 rfl (lv_at hl 0 rfl) ?_
    refine lv_dup E.1 E.2.1 dX1_roll_15 rfl ?_
    refine g_tr (v := .int (S 40 i 0)) E hP hV hw (by omega) 10 (by decide) gw_380 rfl dX1_roll_16 ?_
    refine lv_iconst (v := 1) E.1 E.2.1 dX1_roll_19 (by decide) ?_
    refine lv_isub E.1 E.2.1 dX1_roll_20 ?_
    refine p_tr E hP hA hS hV hw (by omega) 10 (by decide) gw_380 (V' := upL V w (up S 40 i 0 ((S 40 i 0) - 1))) rfl dX1_roll_21 (fun H locs hP hS => ?_)
    refine lv_aload_n E.1 E.2.1 dX1_roll_24 rfl (lv_at hl 0 rfl) ?_
    refine g_tr (v := .int ((S 40 i 0) - 1)) E hP (upL_same V w (up S 40 i 0 ((S 40 i 0) - 1))) hw (by omega) 10 (by decide) gw_380 (by first | rfl | simp [fTr, up_f, up_s]) dX1_roll_25 ?_
    refine lv_if_gt (tgt := 49) E.1 E.2.1 dX1_roll_28 (by decide) (fun c_28 => ?_) (fun c_28 => ?_)
    · exact e_vX E hr hlk hP hS (fin1 hV' (by simp [rollF, rollT, up_f, up_s, c_11, c_28])) dX1_roll_49
    · refine lv_aload_n E.1 E.2.1 dX1_roll_31 rfl (lv_at hl 0 rfl) ?_
      refine g_tr (v := .int (S 38 i 0)) E hP (upL_same V w (up S 40 i 0 ((S 40 i 0) - 1))) hw (by omega) 8 (by decide) gw_149 (by first | rfl | simp [fTr, up_f, up_s]) dX1_roll_32 ?_
      refine lv_if_lt (tgt := 49) E.1 E.2.1 dX1_roll_35 (by decide) (fun c_35 => ?_) (fun c_35 => ?_)
      · exact e_vX E hr hlk hP hS (fin1 hV' (by simp [rollF, rollT, up_f, up_s, c_11, c_28, c_35])) dX1_roll_49
      · refine lv_aload_n E.1 E.2.1 dX1_roll_38 rfl (lv_at hl 0 rfl) ?_
        refine g_tr (v := .int (S 38 i 0)) E hP (upL_same V w (up S 40 i 0 ((S 40 i 0) - 1))) hw (by omega) 8 (by decide) gw_149 (by first | rfl | simp [fTr, up_f, up_s]) dX1_roll_39 ?_
        refine lv_aload_n E.1 E.2.1 dX1_roll_42 rfl (lv_at hl 1 rfl) ?_
        refine g_ln (v := .int (S 4 0 0)) E hP (upL_same V w (up S 40 i 0 ((S 40 i 0) - 1))) hw 4 (by decide) gw_164 (by first | rfl | simp [fLn, up_f, up_s]) dX1_roll_43 ?_
        refine lv_icmp_lt (tgt := 50) E.1 E.2.1 dX1_roll_46 (by decide) (fun c_46 => ?_) (fun c_46 => ?_)
        · refine lv_aload_n E.1 E.2.1 dX1_roll_50 rfl (lv_at hl 1 rfl) ?_
          refine g_ln E hP (upL_same V w (up S 40 i 0 ((S 40 i 0) - 1))) hw 3 (by decide) gw_23 rfl dX1_roll_51 ?_
          refine lv_aload_n E.1 E.2.1 dX1_roll_54 rfl (lv_at hl 0 rfl) ?_
          refine g_tr (v := .int (S 38 i 0)) E hP (upL_same V w (up S 40 i 0 ((S 40 i 0) - 1))) hw (by omega) 8 (by decide) gw_149 (by first | rfl | simp [fTr, up_f, up_s]) dX1_roll_55 ?_
          have hin_58 : vp_in (S 38 i 0) 16 := vinL c_35 c_46 (clamp_le hR)
          refine a_rt (k := ((S 38 i 0).toNatClampNeg)) E hP hw rfl hin_58 dX1_roll_58 ?_
          refine lv_astore_n (lv' := [(3, .ref (ad Z (cRt w ((S 38 i 0).toNatClampNeg)))), (2, .ref (ad Z (cTr w i))), (0, .ref (ad Z (cLn w))), (1, .int (nI i))]) E.1 E.2.1 dX1_roll_59 rfl hl (by decide) rfl (fun ls hl => ?_)
          refine lv_aload_n E.1 E.2.1 dX1_roll_60 rfl (lv_at hl 1 rfl) ?_
          refine g_tr (v := .int (S 39 i 0)) E hP (upL_same V w (up S 40 i 0 ((S 40 i 0) - 1))) hw (by omega) 9 (by decide) gw_297 (by first | rfl | simp [fTr, up_f, up_s]) dX1_roll_61 ?_
          refine lv_iconst (v := 1) E.1 E.2.1 dX1_roll_64 (by decide) ?_
          refine lv_iadd E.1 E.2.1 dX1_roll_65 ?_
          refine lv_istore (lv' := [(4, .int ((S 39 i 0) + 1)), (3, .ref (ad Z (cRt w ((S 38 i 0).toNatClampNeg)))), (2, .ref (ad Z (cTr w i))), (0, .ref (ad Z (cLn w))), (1, .int (nI i))]) E.1 E.2.1 dX1_roll_66 hl (by decide) rfl (fun ls hl => ?_)
          refine lv_iload E.1 E.2.1 dX1_roll_68 (lv_at hl 0 rfl) ?_
          refine lv_aload_n E.1 E.2.1 dX1_roll_70 rfl (lv_at hl 1 rfl) ?_
          refine g_rt (v := .int (S 23 ((S 38 i 0).toNatClampNeg) 0)) E hP (upL_same V w (up S 40 i 0 ((S 40 i 0) - 1))) hw (vp_lt hin_58) 3 (by decide) gw_123 (by first | rfl | simp [fRt, up_f, up_s]) dX1_roll_71 ?_
          refine lv_icmp_lt (tgt := 85) E.1 E.2.1 dX1_roll_74 (by decide) (fun c_74 => ?_) (fun c_74 => ?_)
          · refine lv_aload_n E.1 E.2.1 dX1_roll_85 rfl (lv_at hl 3 rfl) ?_
            refine lv_aload_n E.1 E.2.1 dX1_roll_86 rfl (lv_at hl 1 rfl) ?_
            refine lv_iload E.1 E.2.1 dX1_roll_87 (lv_at hl 0 rfl) ?_
            refine go_Pi (run_V (rest := [.ref (ad Z (cLn w))]) E hml hl.1 (c_X2_blockAt l  (upL_same V w (up S 40 i 0 ((S 40 i 0) - 1))) hw (vp_lt hin_58) ((S 39 i 0) + 1)) k_X2_blockAt ⟨rfl, rfl, Nat.le_of_ble_eq_true rfl, Nat.le_of_ble_eq_true rfl⟩ gw_126 gw_127 gw_128 hP (rv_rt E hP hw (vp_lt hin_58)) rfl rfl (Nat.le_of_ble_eq_true rfl) ⟨Nat.zero_le _, Nat.zero_le _⟩ dX1_roll_89) ?_
            refine lv_iload_n E.1 E.2.1 dX1_roll_92 rfl (lv_at hl 4 rfl) ?_
            refine go_Pi (run_V (rest := []) E hml hl.1 (c_X1_isClearFor l  (upL_same V w (up S 40 i 0 ((S 40 i 0) - 1))) hw (blockAtF (up S 40 i 0 ((S 40 i 0) - 1)) ((S 38 i 0).toNatClampNeg) ((S 39 i 0) + 1)) (nI i) (Lim_of (KC_up (by decide) (KC_refl _)) hL)) k_X1_isClearFor ⟨rfl, rfl, Nat.le_of_ble_eq_true rfl, Nat.le_of_ble_eq_true rfl⟩ gw_401 gw_402 gw_403 hP (rv_ln E hP hw) rfl rfl (Nat.le_of_ble_eq_true rfl) ⟨Nat.zero_le _, Nat.zero_le _⟩ dX1_roll_93) ?_
            refine lv_if_eq (tgt := 118) E.1 E.2.1 dX1_roll_96 (by decide) (fun c_96 => ?_) (fun c_96 => ?_)
            · refine lv_aload_n E.1 E.2.1 dX1_roll_118 rfl (lv_at hl 2 rfl) ?_
              refine lv_aload_n E.1 E.2.1 dX1_roll_119 rfl (lv_at hl 3 rfl) ?_
              refine lv_aload_n E.1 E.2.1 dX1_roll_120 rfl (lv_at hl 1 rfl) ?_
              refine lv_iload E.1 E.2.1 dX1_roll_121 (lv_at hl 0 rfl) ?_
              refine go_Pi (run_V (rest := [.ref (ad Z (cLn w)), .ref (ad Z (cTr w i))]) E hml hl.1 (c_X2_blockAt l  (upL_same V w (up S 40 i 0 ((S 40 i 0) - 1))) hw (vp_lt hin_58) ((S 39 i 0) + 1)) k_X2_blockAt ⟨rfl, rfl, Nat.le_of_ble_eq_true rfl, Nat.le_of_ble_eq_true rfl⟩ gw_126 gw_127 gw_128 hP (rv_rt E hP hw (vp_lt hin_58)) rfl rfl (Nat.le_of_ble_eq_true rfl) ⟨Nat.zero_le _, Nat.zero_le _⟩ dX1_roll_123) ?_
              refine lv_iload_n E.1 E.2.1 dX1_roll_126 rfl (lv_at hl 4 rfl) ?_
              refine go_Pi (run_V (rest := [.ref (ad Z (cTr w i))]) E hml hl.1 (c_X1_trainInTheWay l  (upL_same V w (up S 40 i 0 ((S 40 i 0) - 1))) hw (blockAtF (up S 40 i 0 ((S 40 i 0) - 1)) ((S 38 i 0).toNatClampNeg) ((S 39 i 0) + 1)) (nI i) (Lim_of (KC_up (by decide) (KC_refl _)) hL)) k_X1_trainInTheWay ⟨rfl, rfl, Nat.le_of_ble_eq_true rfl, Nat.le_of_ble_eq_true rfl⟩ gw_412 gw_413 gw_414 hP (rv_ln E hP hw) rfl rfl (Nat.le_of_ble_eq_true rfl) ⟨Nat.zero_le _, Nat.zero_le _⟩ dX1_roll_127) ?_
              refine go_Xv (run_V (rest := []) E hml hl.1 (c_X3_waitOneTick l hA (V' := upL V w (waitF (up S 40 i 0 ((S 40 i 0) - 1)) i (inWayF (up S 40 i 0 ((S 40 i 0) - 1)) (blockAtF (up S 40 i 0 ((S 40 i 0) - 1)) ((S 38 i 0).toNatClampNeg) ((S 39 i 0) + 1)) (nI i)))) (upL_same V w (up S 40 i 0 ((S 40 i 0) - 1))) hw (by omega) (inWayF (up S 40 i 0 ((S 40 i 0) - 1)) (blockAtF (up S 40 i 0 ((S 40 i 0) - 1)) ((S 38 i 0).toNatClampNeg) ((S 39 i 0) + 1)) (nI i)) (upL_upL V w _ _)) k_X3_waitOneTick ⟨rfl, rfl, Nat.le_of_ble_eq_true rfl, Nat.le_of_ble_eq_true rfl⟩ gw_416 gw_417 gw_418 hP (rv_tr E hP hw (by omega)) rfl rfl (Nat.le_of_ble_eq_true rfl) ⟨Nat.zero_le _, Nat.zero_le _⟩ dX1_roll_130) hS (fun H locs hP hS => ?_)
              exact e_vX E hr hlk hP hS (fin1 hV' (by simp [rollF, rollT, up_f, up_s, c_11, c_28, c_35, c_46, c_74, c_96, (b2i_f c_96)])) dX1_roll_133
            · refine lv_aload_n E.1 E.2.1 dX1_roll_99 rfl (lv_at hl 3 rfl) ?_
              refine lv_aload_n E.1 E.2.1 dX1_roll_100 rfl (lv_at hl 2 rfl) ?_
              refine go_Xv (run_V (rest := []) E hml hl.1 (c_X1_leaveBlock l hA (V' := upL V w (leaveF (up S 40 i 0 ((S 40 i 0) - 1)) i)) (upL_same V w (up S 40 i 0 ((S 40 i 0) - 1))) hw (by omega) (Lim_of (KC_up (by decide) (KC_refl _)) hL) (upL_upL V w _ _)) k_X1_leaveBlock ⟨rfl, rfl, Nat.le_of_ble_eq_true rfl, Nat.le_of_ble_eq_true rfl⟩ gw_385 gw_386 gw_387 hP (rv_ln E hP hw) rfl rfl (Nat.le_of_ble_eq_true rfl) ⟨Nat.zero_le _, Nat.zero_le _⟩ dX1_roll_101) hS (fun H locs hP hS => ?_)
              refine lv_aload_n E.1 E.2.1 dX1_roll_104 rfl (lv_at hl 3 rfl) ?_
              refine lv_iload_n E.1 E.2.1 dX1_roll_105 rfl (lv_at hl 4 rfl) ?_
              refine lv_aload_n E.1 E.2.1 dX1_roll_106 rfl (lv_at hl 2 rfl) ?_
              refine g_tr (v := .int ((leaveF (up S 40 i 0 ((S 40 i 0) - 1)) i) 38 i 0)) E hP (upL_same V w (leaveF (up S 40 i 0 ((S 40 i 0) - 1)) i)) hw (by omega) 8 (by decide) gw_149 rfl dX1_roll_107 ?_
              refine lv_iload E.1 E.2.1 dX1_roll_110 (lv_at hl 0 rfl) ?_
              refine go_Xv (run_V (rest := []) E hml hl.1 (c_X1_enter l hA (V' := upL V w (enterF (leaveF (up S 40 i 0 ((S 40 i 0) - 1)) i) i ((leaveF (up S 40 i 0 ((S 40 i 0) - 1)) i) 38 i 0) ((S 39 i 0) + 1))) (upL_same V w (leaveF (up S 40 i 0 ((S 40 i 0) - 1)) i)) hw (by omega) ((leaveF (up S 40 i 0 ((S 40 i 0) - 1)) i) 38 i 0) ((S 39 i 0) + 1) (by rw [leave_ne (by decide)]; exact hin_58) (Lim_of (KC_leave (KC_up (by decide) (KC_refl _))) hL) (upL_upL V w _ _)) k_X1_enter ⟨rfl, rfl, Nat.le_of_ble_eq_true rfl, Nat.le_of_ble_eq_true rfl⟩ gw_407 gw_408 gw_409 hP (rv_ln E hP hw) rfl rfl (Nat.le_of_ble_eq_true rfl) ⟨Nat.zero_le _, Nat.zero_le _⟩ dX1_roll_112) hS (fun H locs hP hS => ?_)
              refine lv_goto (tgt := 133) E.1 E.2.1 dX1_roll_115 (by decide) ?_
              exact e_vX E hr hlk hP hS (fin1 hV' (by simp [rollF, rollT, up_f, up_s, c_11, c_28, c_35, c_46, c_74, c_96, (b2i_t c_96)])) dX1_roll_133
          · refine lv_aload_n E.1 E.2.1 dX1_roll_77 rfl (lv_at hl 3 rfl) ?_
            refine lv_aload_n E.1 E.2.1 dX1_roll_78 rfl (lv_at hl 2 rfl) ?_
            refine go_Xv (run_V (rest := []) E hml hl.1 (c_X1_comeToStation l hA (V' := upL V w (comeF (up S 40 i 0 ((S 40 i 0) - 1)) i)) (upL_same V w (up S 40 i 0 ((S 40 i 0) - 1))) hw (by omega) (Lim_of (KC_up (by decide) (KC_refl _)) hL) (upL_upL V w _ _)) k_X1_comeToStation ⟨rfl, rfl, Nat.le_of_ble_eq_true rfl, Nat.le_of_ble_eq_true rfl⟩ gw_381 gw_382 gw_383 hP (rv_ln E hP hw) rfl rfl (Nat.le_of_ble_eq_true rfl) ⟨Nat.zero_le _, Nat.zero_le _⟩ dX1_roll_79) hS (fun H locs hP hS => ?_)
            refine lv_goto (tgt := 133) E.1 E.2.1 dX1_roll_82 (by decide) ?_
            exact e_vX E hr hlk hP hS (fin1 hV' (by simp [rollF, rollT, up_f, up_s, c_11, c_28, c_35, c_46, c_74])) dX1_roll_133
        · exact e_vX E hr hlk hP hS (fin1 hV' (by simp [rollF, rollT, up_f, up_s, c_11, c_28, c_35, c_46])) dX1_roll_49

abbrev rm_X1_lockRest : Room := { frames := 1, cells := 0, slots := 0, locals := 21 }
theorem k_X1_lockRest : Card yX1_lockRest cX1_lockRest 5 none 2 := ⟨gw_467, gw_12, by decide +kernel, by decide +kernel⟩
set_option maxHeartbeats 4000000 in
set_option maxRecDepth 20000 in
theorem c_X1_lockRest (l : Launch) {Z : Gm} (hA : AA Z) {V : Nat → St} {V' : Nat → St} {w : Nat} {S : St} (hV : V w = S) (hw : w < 2) (i : Nat) {r : Nat} (hi8 : i < 8) (hr16 : r < 16) (hL : Lim S) (hV' : upL V w (lockF S i r) = V') : Met l yX1_lockRest (.code yX1_lockRest cX1_lockRest 5 none :: gG) rm_X1_lockRest (PW Z V [.ref (ad Z (cLn w)), .int (nI i), .ref (ad Z (cRt w r))]) (QX Z none V') 0 0 (inW Z) := by
  refine met_of (by decide +kernel) (Nat.le_of_ble_eq_true rfl) ?_
  intro p e s m args below meth c ls E hr hlk hml hP hl
  have E : EE Z p s m args c cX1_lockRest RX1 := E
  have hl : lv_has ls 5 [(0, .ref (ad Z (cLn w))), (1, .int (nI i)), (2, .ref (ad Z (cRt w r)))] := hl
  have hS : va_S (inW Z) s.heap s.heap [] := va_S.rf
  have hT := hL.2.2
  have hR := hL.2.1
  have hB := hL.1
  have h31 := clamp_lt31 (S 23 r 0)
  refine lv_iconst (v := 1) E.1 E.2.1 dX1_lockRest_0 (by decide) ?_
  refine lv_istore_n (lv' := [(3, .int 1), (0, .ref (ad Z (cLn w))), (1, .int (nI i)), (2, .ref (ad Z (cRt w r)))]) E.1 E.2.1 dX1_lockRest_1 rfl hl (by decide) rfl (fun ls hl => ?_)
  have loop_2 : ∀ (n_2 : Nat) (j : Nat) (S1 : St), (S 23 r 0).toNatClampNeg - j < n_2 → (S1 = lockI S i r j) → (j ≤ (S 23 r 0).toNatClampNeg - 1) → ∀ (H : Heap) (locs : List Loc), va_P (gD Z) vwCl (bw Z (upL V w S1)) H → va_S (inW Z) s.heap H locs → ∀ (ls : Array Slot), lv_has ls 5 [(3, .int (nI (j + 1))), (0, .ref (ad Z (cLn w))), (1, .int (nI i)), (2, .ref (ad Z (cRt w r)))] → W p l e rm_X1_lockRest s m args below meth c H locs 0 0 (MQ below (QX Z none V') args s 0 0 (inW Z)) (F0 m 2 ls []) := by
    intro n_2
    induction n_2 with
    | zero => intro j S1 hm_2; exact absurd hm_2 (by omega)
    | succ n_2 ih_2 =>
      intro j S1 hm_2 ha hj H locs hP hS ls hl
      have hk : ∀ f k q, f ≠ 12 → S1 f k q = S f k q := fun f k q h => by rw [ha]; exact lockI_ne h k q j
      have hb : ∀ x, blockAtF S1 r x = blockAtF S r x := blockAt_cg (fun q => hk 24 r q (by decide))
      have hkc : KC S1 S := ⟨hk _ _ _ (by decide), hk _ _ _ (by decide), hk _ _ _ (by decide)⟩
      refine lv_iload_n E.1 E.2.1 dX1_lockRest_2 rfl (lv_at hl 0 rfl) ?_
      refine lv_aload_n E.1 E.2.1 dX1_lockRest_3 rfl (lv_at hl 3 rfl) ?_
      refine g_rt (v := .int (S1 23 r 0)) E hP (upL_same V w S1) hw (by omega) 3 (by decide) gw_123 rfl dX1_lockRest_4 ?_
      refine lv_icmp_ge (tgt := 48) E.1 E.2.1 dX1_lockRest_7 (by decide) (fun c_7 => ?_) (fun c_7 => ?_)
      · rw [hk 23 r 0 (by decide)] at c_7
        have hd : (S 23 r 0).toNatClampNeg ≤ j + 1 := lq1 (by omega) c_7
        exact e_vX E hr hlk hP hS (fin1 hV' (by rw [ha, show j = (S 23 r 0).toNatClampNeg - 1 from by omega]; rfl)) dX1_lockRest_48
      · rw [hk 23 r 0 (by decide)] at c_7
        have hd : j + 1 < (S 23 r 0).toNatClampNeg := lq2 (by omega) c_7
        refine lv_aload_n E.1 E.2.1 dX1_lockRest_10 rfl (lv_at hl 3 rfl) ?_
        refine lv_iload_n E.1 E.2.1 dX1_lockRest_11 rfl (lv_at hl 0 rfl) ?_
        refine go_Pi (run_V (rest := []) E hml hl.1 (c_X2_blockAt l  (upL_same V w S1) hw (by omega) (nI (j + 1))) k_X2_blockAt ⟨rfl, rfl, Nat.le_of_ble_eq_true rfl, Nat.le_of_ble_eq_true rfl⟩ gw_126 gw_127 gw_128 hP (rv_rt E hP hw (by omega)) rfl rfl (Nat.le_of_ble_eq_true rfl) ⟨Nat.zero_le _, Nat.zero_le _⟩ dX1_lockRest_12) ?_
        refine lv_istore (lv' := [(4, .int (blockAtF S1 r (nI (j + 1)))), (3, .int (nI (j + 1))), (0, .ref (ad Z (cLn w))), (1, .int (nI i)), (2, .ref (ad Z (cRt w r)))]) E.1 E.2.1 dX1_lockRest_15 hl (by decide) rfl (fun ls hl => ?_)
        refine lv_iload E.1 E.2.1 dX1_lockRest_17 (lv_at hl 0 rfl) ?_
        refine lv_if_lt (tgt := 42) E.1 E.2.1 dX1_lockRest_19 (by decide) (fun c_19 => ?_) (fun c_19 => ?_)
        · refine lv_iinc (v := (nI ((j + 1) + 1))) (lv' := [(3, .int (nI ((j + 1) + 1))), (4, .int (blockAtF S1 r (nI (j + 1)))), (0, .ref (ad Z (cLn w))), (1, .int (nI i)), (2, .ref (ad Z (cRt w r)))]) E.1 E.2.1 dX1_lockRest_42 hl (k := 1) rfl (nI_1 _) (by decide) rfl (fun ls hl => ?_)
          refine lv_goto (tgt := 2) E.1 E.2.1 dX1_lockRest_45 (by decide) ?_
          exact ih_2 (j + 1) _ (by omega) (lock_step ha hb (hk 2 0 0 (by decide)) (by simp [c_7, c_19])) (by omega) H locs hP hS ls (lv_sub hl [0, 2, 3, 4] rfl)
        · refine lv_iload E.1 E.2.1 dX1_lockRest_22 (lv_at hl 0 rfl) ?_
          refine lv_aload_n E.1 E.2.1 dX1_lockRest_24 rfl (lv_at hl 2 rfl) ?_
          refine g_ln (v := .int (S1 2 0 0)) E hP (upL_same V w S1) hw 2 (by decide) gw_124 rfl dX1_lockRest_25 ?_
          refine lv_icmp_ge (tgt := 42) E.1 E.2.1 dX1_lockRest_28 (by decide) (fun c_28 => ?_) (fun c_28 => ?_)
          · refine lv_iinc (v := (nI ((j + 1) + 1))) (lv' := [(3, .int (nI ((j + 1) + 1))), (4, .int (blockAtF S1 r (nI (j + 1)))), (0, .ref (ad Z (cLn w))), (1, .int (nI i)), (2, .ref (ad Z (cRt w r)))]) E.1 E.2.1 dX1_lockRest_42 hl (k := 1) rfl (nI_1 _) (by decide) rfl (fun ls hl => ?_)
            refine lv_goto (tgt := 2) E.1 E.2.1 dX1_lockRest_45 (by decide) ?_
            exact ih_2 (j + 1) _ (by omega) (lock_step ha hb (hk 2 0 0 (by decide)) (by simp [c_7, c_19, c_28])) (by omega) H locs hP hS ls (lv_sub hl [0, 2, 3, 4] rfl)
          · refine lv_aload_n E.1 E.2.1 dX1_lockRest_31 rfl (lv_at hl 2 rfl) ?_
            refine g_ln E hP (upL_same V w S1) hw 1 (by decide) gw_21 rfl dX1_lockRest_32 ?_
            refine lv_iload E.1 E.2.1 dX1_lockRest_35 (lv_at hl 0 rfl) ?_
            have hin_37 : vp_in (blockAtF S1 r (nI (j + 1))) 16 := vin c_19 c_28 (by rw [hk 2 0 0 (by decide)]; exact clamp_le hB)
            refine a_bk (k := ((blockAtF S1 r (nI (j + 1))).toNatClampNeg)) E hP hw rfl hin_37 dX1_lockRest_37 ?_
            refine lv_iload_n E.1 E.2.1 dX1_lockRest_38 rfl (lv_at hl 3 rfl) ?_
            refine p_bk E hP hA hS (upL_same V w S1) hw (vp_lt hin_37) 2 (by decide) gw_405 (V' := upL V w (up S1 12 ((blockAtF S1 r (nI (j + 1))).toNatClampNeg) 0 (nI i))) (upL_upL V w _ _) dX1_lockRest_39 (fun H locs hP hS => ?_)
            refine lv_iinc (v := (nI ((j + 1) + 1))) (lv' := [(3, .int (nI ((j + 1) + 1))), (4, .int (blockAtF S1 r (nI (j + 1)))), (0, .ref (ad Z (cLn w))), (1, .int (nI i)), (2, .ref (ad Z (cRt w r)))]) E.1 E.2.1 dX1_lockRest_42 hl (k := 1) rfl (nI_1 _) (by decide) rfl (fun ls hl => ?_)
            refine lv_goto (tgt := 2) E.1 E.2.1 dX1_lockRest_45 (by decide) ?_
            exact ih_2 (j + 1) _ (by omega) (lock_step ha hb (hk 2 0 0 (by decide)) (by simp [c_7, c_19, c_28])) (by omega) H locs hP hS ls (lv_sub hl [0, 2, 3, 4] rfl)
  exact loop_2 ((S 23 r 0).toNatClampNeg + 1) 0 S (by omega) rfl (Nat.zero_le _) _ _ (by rw [show upL V w S = V from by rw [← hV]; exact upL_self V w]; exact hP) hS _ (lv_sub hl [0, 1, 2, 3] rfl)

abbrev rm_X1_setOut : Room := { frames := 2, cells := 0, slots := 0, locals := 46 }
theorem k_X1_setOut : Card yX1_setOut cX1_setOut 3 none 2 := ⟨gw_462, gw_12, by decide +kernel, by decide +kernel⟩
set_option maxHeartbeats 4000000 in
set_option maxRecDepth 20000 in
theorem c_X1_setOut (l : Launch) {Z : Gm} (hA : AA Z) {V : Nat → St} {V' : Nat → St} {w : Nat} {S : St} (hV : V w = S) (hw : w < 2) (i r : Nat) (hi8 : i < 8) (hr16 : r < 16) (hL : Lim S) (hV' : upL V w (setOutF S i r) = V') : Met l yX1_setOut (.code yX1_setOut cX1_setOut 3 none :: gG) rm_X1_setOut (PW Z V [.ref (ad Z (cLn w)), .int (nI i), .int (nI r)]) (QX Z none V') 0 0 (inW Z) := by
  refine met_of (by decide +kernel) (Nat.le_of_ble_eq_true rfl) ?_
  intro p e s m args below meth c ls E hr hlk hml hP hl
  have E : EE Z p s m args c cX1_setOut RX1 := E
  have hl : lv_has ls 3 [(0, .ref (ad Z (cLn w))), (1, .int (nI i)), (2, .int (nI r))] := hl
  have hS : va_S (inW Z) s.heap s.heap [] := va_S.rf
  have hT := hL.2.2
  have hR := hL.2.1
  have hB := hL.1
  refine lv_aload_n E.1 E.2.1 dX1_setOut_0 rfl (lv_at hl 0 rfl) ?_
  refine g_ln E hP hV hw 5 (by decide) gw_25 rfl dX1_setOut_1 ?_
  refine lv_iload_n E.1 E.2.1 dX1_setOut_4 rfl (lv_at hl 1 rfl) ?_
  refine a_tr (k := i) E hP hw (nI_clamp (by omega)) (vp_in_nI (by omega) (by omega)) dX1_setOut_5 ?_
  refine lv_aload_n E.1 E.2.1 dX1_setOut_6 rfl (lv_at hl 0 rfl) ?_
  refine g_ln (v := .int (S 9 0 0)) E hP hV hw 9 (by decide) gw_278 rfl dX1_setOut_7 ?_
  refine go_Xv (run_V (rest := []) E hml hl.1 (c_X3_beLate l hA (V' := upL V w (beLateF S i (S 9 0 0))) hV hw (by omega) (S 9 0 0) rfl) k_X3_beLate ⟨rfl, rfl, Nat.le_of_ble_eq_true rfl, Nat.le_of_ble_eq_true rfl⟩ gw_391 gw_392 gw_393 hP (rv_tr E hP hw (by omega)) rfl rfl (Nat.le_of_ble_eq_true rfl) ⟨Nat.zero_le _, Nat.zero_le _⟩ dX1_setOut_10) hS (fun H locs hP hS => ?_)
  refine lv_aload_n E.1 E.2.1 dX1_setOut_13 rfl (lv_at hl 0 rfl) ?_
  refine lv_iload_n E.1 E.2.1 dX1_setOut_14 rfl (lv_at hl 1 rfl) ?_
  refine lv_iload_n E.1 E.2.1 dX1_setOut_15 rfl (lv_at hl 2 rfl) ?_
  refine lv_iconst (v := 0) E.1 E.2.1 dX1_setOut_16 (by decide) ?_
  refine go_Xv (run_V (rest := []) E hml hl.1 (c_X1_enter l hA (V' := upL V w (enterF (beLateF S i (S 9 0 0)) i (nI r) 0)) (upL_same V w (beLateF S i (S 9 0 0))) hw (by omega) (nI r) 0 (vp_in_nI (by omega) (by omega)) (Lim_of (KC_late (KC_refl _)) hL) (upL_upL V w _ _)) k_X1_enter ⟨rfl, rfl, Nat.le_of_ble_eq_true rfl, Nat.le_of_ble_eq_true rfl⟩ gw_407 gw_408 gw_409 hP (rv_ln E hP hw) rfl rfl (Nat.le_of_ble_eq_true rfl) ⟨Nat.zero_le _, Nat.zero_le _⟩ dX1_setOut_17) hS (fun H locs hP hS => ?_)
  refine lv_aload_n E.1 E.2.1 dX1_setOut_20 rfl (lv_at hl 0 rfl) ?_
  refine g_ln E hP (upL_same V w (enterF (beLateF S i (S 9 0 0)) i (nI r) 0)) hw 3 (by decide) gw_23 rfl dX1_setOut_21 ?_
  refine lv_iload_n E.1 E.2.1 dX1_setOut_24 rfl (lv_at hl 2 rfl) ?_
  refine a_rt (k := r) E hP hw (nI_clamp (by omega)) (vp_in_nI (by omega) (by omega)) dX1_setOut_25 ?_
  refine g_rt (v := .int ((enterF (beLateF S i (S 9 0 0)) i (nI r) 0) 22 r 0)) E hP (upL_same V w (enterF (beLateF S i (S 9 0 0)) i (nI r) 0)) hw (by omega) 2 (by decide) gw_463 rfl dX1_setOut_26 ?_
  refine lv_if_eq (tgt := 43) E.1 E.2.1 dX1_setOut_29 (by decide) (fun c_29 => ?_) (fun c_29 => ?_)
  · exact e_vX E hr hlk hP hS (fin1 hV' (by simp [setOutF, setOutT, c_29])) dX1_setOut_43
  · refine lv_aload_n E.1 E.2.1 dX1_setOut_32 rfl (lv_at hl 0 rfl) ?_
    refine lv_iload_n E.1 E.2.1 dX1_setOut_33 rfl (lv_at hl 1 rfl) ?_
    refine lv_aload_n E.1 E.2.1 dX1_setOut_34 rfl (lv_at hl 0 rfl) ?_
    refine g_ln E hP (upL_same V w (enterF (beLateF S i (S 9 0 0)) i (nI r) 0)) hw 3 (by decide) gw_23 rfl dX1_setOut_35 ?_
    refine lv_iload_n E.1 E.2.1 dX1_setOut_38 rfl (lv_at hl 2 rfl) ?_
    refine a_rt (k := r) E hP hw (nI_clamp (by omega)) (vp_in_nI (by omega) (by omega)) dX1_setOut_39 ?_
    refine go_Xv (run_V (rest := []) E hml hl.1 (c_X1_lockRest l hA (V' := upL V w (lockF (enterF (beLateF S i (S 9 0 0)) i (nI r) 0) i r)) (upL_same V w (enterF (beLateF S i (S 9 0 0)) i (nI r) 0)) hw i (by omega) (by omega) (Lim_of (KC_enter (KC_late (KC_refl _))) hL) (upL_upL V w _ _)) k_X1_lockRest ⟨rfl, rfl, Nat.le_of_ble_eq_true rfl, Nat.le_of_ble_eq_true rfl⟩ gw_464 gw_465 gw_466 hP (rv_ln E hP hw) rfl rfl (Nat.le_of_ble_eq_true rfl) ⟨Nat.zero_le _, Nat.zero_le _⟩ dX1_setOut_40) hS (fun H locs hP hS => ?_)
    exact e_vX E hr hlk hP hS (fin1 hV' (by simp [setOutF, setOutT, c_29])) dX1_setOut_43

abbrev rm_X1_takeTurn : Room := { frames := 3, cells := 0, slots := 0, locals := 69 }
theorem k_X1_takeTurn : Card yX1_takeTurn cX1_takeTurn 4 none 1 := ⟨gw_437, gw_12, by decide +kernel, by decide +kernel⟩
set_option maxHeartbeats 4000000 in
set_option maxRecDepth 20000 in
theorem c_X1_takeTurn (l : Launch) {Z : Gm} (hA : AA Z) {V : Nat → St} {V' : Nat → St} {w : Nat} {S : St} (hV : V w = S) (hw : w < 2) (i : Nat) (hi8 : i < 8) (hL : Lim S) (hV' : upL V w (turnF S i) = V') : Met l yX1_takeTurn (.code yX1_takeTurn cX1_takeTurn 4 none :: gG) rm_X1_takeTurn (PW Z V [.ref (ad Z (cLn w)), .int (nI i)]) (QX Z none V') 0 0 (inW Z) := by
  refine met_of (by decide +kernel) (Nat.le_of_ble_eq_true rfl) ?_
  intro p e s m args below meth c ls E hr hlk hml hP hl
  have E : EE Z p s m args c cX1_takeTurn RX1 := E
  have hl : lv_has ls 4 [(0, .ref (ad Z (cLn w))), (1, .int (nI i))] := hl
  have hS : va_S (inW Z) s.heap s.heap [] := va_S.rf
  have hT := hL.2.2
  have hR := hL.2.1
  have hB := hL.1
  refine lv_iconst (v := (-1)) E.1 E.2.1 dX1_takeTurn_0 (by decide) ?_
  refine lv_istore_n (lv' := [(2, .int (-1)), (0, .ref (ad Z (cLn w))), (1, .int (nI i))]) E.1 E.2.1 dX1_takeTurn_1 rfl hl (by decide) rfl (fun ls hl => ?_)
  refine lv_iconst (v := 0) E.1 E.2.1 dX1_takeTurn_2 (by decide) ?_
  refine lv_istore_n (lv' := [(3, .int 0), (2, .int (-1)), (0, .ref (ad Z (cLn w))), (1, .int (nI i))]) E.1 E.2.1 dX1_takeTurn_3 rfl hl (by decide) rfl (fun ls hl => ?_)
  have loop_4 : ∀ (n_4 : Nat) (r : Nat) (f : Int32), nR S - r < n_4 → (turnL S i (nR S - r) r f = turnF S i) → (f = -1 ∨ vp_in f 16) → (r ≤ nR S) → ∀ (H : Heap) (locs : List Loc), va_P (gD Z) vwCl (bw Z (upL V w S)) H → va_S (inW Z) s.heap H locs → ∀ (ls : Array Slot), lv_has ls 4 [(3, .int (nI r)), (2, .int f), (0, .ref (ad Z (cLn w))), (1, .int (nI i))] → W p l e rm_X1_takeTurn s m args below meth c H locs 0 0 (MQ below (QX Z none V') args s 0 0 (inW Z)) (F0 m 4 ls []) := by
    intro n_4
    induction n_4 with
    | zero => intro r f hm_4; exact absurd hm_4 (by omega)
    | succ n_4 ih_4 =>
      intro r f hm_4 ha hf hrr H locs hP hS ls hl
      refine lv_iload_n E.1 E.2.1 dX1_takeTurn_4 rfl (lv_at hl 0 rfl) ?_
      refine lv_aload_n E.1 E.2.1 dX1_takeTurn_5 rfl (lv_at hl 2 rfl) ?_
      refine g_ln (v := .int (S 4 0 0)) E hP (upL_same V w S) hw 4 (by decide) gw_164 rfl dX1_takeTurn_6 ?_
      refine lv_icmp_ge (tgt := 69) E.1 E.2.1 dX1_takeTurn_9 (by decide) (fun c_9 => ?_) (fun c_9 => ?_)
      · have hd : nR S ≤ r := lq1 (by omega) c_9
        refine lv_aload_n E.1 E.2.1 dX1_takeTurn_69 rfl (lv_at hl 2 rfl) ?_
        refine g_ln E hP (upL_same V w S) hw 5 (by decide) gw_25 rfl dX1_takeTurn_70 ?_
        refine lv_iload_n E.1 E.2.1 dX1_takeTurn_73 rfl (lv_at hl 3 rfl) ?_
        refine a_tr (k := i) E hP hw (nI_clamp (by omega)) (vp_in_nI (by omega) (by omega)) dX1_takeTurn_74 ?_
        refine lv_iload_n E.1 E.2.1 dX1_takeTurn_75 rfl (lv_at hl 1 rfl) ?_
        refine lv_iconst (v := (-1)) E.1 E.2.1 dX1_takeTurn_76 (by decide) ?_
        refine lv_icmp_ne (tgt := 84) E.1 E.2.1 dX1_takeTurn_77 (by decide) (fun c_77 => ?_) (fun c_77 => ?_)
        · refine lv_aload_n E.1 E.2.1 dX1_takeTurn_84 rfl (lv_at hl 2 rfl) ?_
          refine lv_aload_n E.1 E.2.1 dX1_takeTurn_85 rfl (lv_at hl 2 rfl) ?_
          refine g_ln E hP (upL_same V w S) hw 3 (by decide) gw_23 rfl dX1_takeTurn_86 ?_
          refine lv_iload_n E.1 E.2.1 dX1_takeTurn_89 rfl (lv_at hl 1 rfl) ?_
          have hin_90 : vp_in f 16 := hf.resolve_left c_77
          refine a_rt (k := (f.toNatClampNeg)) E hP hw rfl hin_90 dX1_takeTurn_90 ?_
          refine lv_iload_n E.1 E.2.1 dX1_takeTurn_91 rfl (lv_at hl 3 rfl) ?_
          refine go_Pi (run_V (rest := [.ref (ad Z (cTr w i))]) E hml hl.1 (c_X1_blameOn l  (upL_same V w S) hw (vp_lt hin_90) (nI i) hL) k_X1_blameOn ⟨rfl, rfl, Nat.le_of_ble_eq_true rfl, Nat.le_of_ble_eq_true rfl⟩ gw_468 gw_469 gw_470 hP (rv_ln E hP hw) rfl rfl (Nat.le_of_ble_eq_true rfl) ⟨Nat.zero_le _, Nat.zero_le _⟩ dX1_takeTurn_92) ?_
          refine go_Xv (run_V (rest := []) E hml hl.1 (c_X3_waitOneTick l hA (V' := upL V w (waitF S i (blameF S (f.toNatClampNeg) (nI i)))) (upL_same V w S) hw (by omega) (blameF S (f.toNatClampNeg) (nI i)) (upL_upL V w _ _)) k_X3_waitOneTick ⟨rfl, rfl, Nat.le_of_ble_eq_true rfl, Nat.le_of_ble_eq_true rfl⟩ gw_416 gw_417 gw_418 hP (rv_tr E hP hw (by omega)) rfl rfl (Nat.le_of_ble_eq_true rfl) ⟨Nat.zero_le _, Nat.zero_le _⟩ dX1_takeTurn_95) hS (fun H locs hP hS => ?_)
          exact e_vX E hr hlk hP hS (fin1 hV' (by rw [← ha, show nR S - r = 0 from by omega]; simp [turnL, c_9, c_77])) dX1_takeTurn_98
        · refine lv_iconst (v := (-1)) E.1 E.2.1 dX1_takeTurn_80 (by decide) ?_
          refine lv_goto (tgt := 95) E.1 E.2.1 dX1_takeTurn_81 (by decide) ?_
          refine go_Xv (run_V (rest := []) E hml hl.1 (c_X3_waitOneTick l hA (V' := upL V w (waitF S i (-1))) (upL_same V w S) hw (by omega) (-1) (upL_upL V w _ _)) k_X3_waitOneTick ⟨rfl, rfl, Nat.le_of_ble_eq_true rfl, Nat.le_of_ble_eq_true rfl⟩ gw_416 gw_417 gw_418 hP (rv_tr E hP hw (by omega)) rfl rfl (Nat.le_of_ble_eq_true rfl) ⟨Nat.zero_le _, Nat.zero_le _⟩ dX1_takeTurn_95) hS (fun H locs hP hS => ?_)
          exact e_vX E hr hlk hP hS (fin1 hV' (by rw [← ha, show nR S - r = 0 from by omega]; simp [turnL, c_9, c_77])) dX1_takeTurn_98
      · have hd : r < nR S := lq2 (by omega) c_9
        refine lv_aload_n E.1 E.2.1 dX1_takeTurn_12 rfl (lv_at hl 2 rfl) ?_
        refine lv_aload_n E.1 E.2.1 dX1_takeTurn_13 rfl (lv_at hl 2 rfl) ?_
        refine g_ln E hP (upL_same V w S) hw 3 (by decide) gw_23 rfl dX1_takeTurn_14 ?_
        refine lv_iload_n E.1 E.2.1 dX1_takeTurn_17 rfl (lv_at hl 0 rfl) ?_
        refine a_rt (k := r) E hP hw (nI_clamp (by omega)) (vp_in_nI (by omega) (by omega)) dX1_takeTurn_18 ?_
        refine lv_aload_n E.1 E.2.1 dX1_takeTurn_19 rfl (lv_at hl 2 rfl) ?_
        refine g_ln E hP (upL_same V w S) hw 5 (by decide) gw_25 rfl dX1_takeTurn_20 ?_
        refine lv_iload_n E.1 E.2.1 dX1_takeTurn_23 rfl (lv_at hl 3 rfl) ?_
        refine a_tr (k := i) E hP hw (nI_clamp (by omega)) (vp_in_nI (by omega) (by omega)) dX1_takeTurn_24 ?_
        refine go_Pi (run_V (rest := []) E hml hl.1 (c_X1_leadsOn l  (upL_same V w S) hw (by omega) (by omega)) k_X1_leadsOn ⟨rfl, rfl, Nat.le_of_ble_eq_true rfl, Nat.le_of_ble_eq_true rfl⟩ gw_438 gw_439 gw_440 hP (rv_ln E hP hw) rfl rfl (Nat.le_of_ble_eq_true rfl) ⟨Nat.zero_le _, Nat.zero_le _⟩ dX1_takeTurn_25) ?_
        refine lv_if_eq (tgt := 63) E.1 E.2.1 dX1_takeTurn_28 (by decide) (fun c_28 => ?_) (fun c_28 => ?_)
        · refine lv_iinc (v := (nI (r + 1))) (lv' := [(3, .int (nI (r + 1))), (2, .int f), (0, .ref (ad Z (cLn w))), (1, .int (nI i))]) E.1 E.2.1 dX1_takeTurn_63 hl (k := 0) rfl (nI_1 _) (by decide) rfl (fun ls hl => ?_)
          refine lv_goto (tgt := 4) E.1 E.2.1 dX1_takeTurn_66 (by decide) ?_
          exact ih_4 (r + 1) _ (by omega) (by rw [← ha, show nR S - r = (nR S - (r + 1)) + 1 from by omega]; simp [turnL, c_9, c_28, (b2i_f c_28)]) (by first | exact hf | exact Or.inr (vp_in_nI (by omega) (by omega))) (by omega) H locs hP hS ls (lv_sub hl [0, 1, 2, 3] rfl)
        · refine lv_aload_n E.1 E.2.1 dX1_takeTurn_31 rfl (lv_at hl 2 rfl) ?_
          refine lv_aload_n E.1 E.2.1 dX1_takeTurn_32 rfl (lv_at hl 2 rfl) ?_
          refine g_ln E hP (upL_same V w S) hw 3 (by decide) gw_23 rfl dX1_takeTurn_33 ?_
          refine lv_iload_n E.1 E.2.1 dX1_takeTurn_36 rfl (lv_at hl 0 rfl) ?_
          refine a_rt (k := r) E hP hw (nI_clamp (by omega)) (vp_in_nI (by omega) (by omega)) dX1_takeTurn_37 ?_
          refine lv_iload_n E.1 E.2.1 dX1_takeTurn_38 rfl (lv_at hl 3 rfl) ?_
          refine go_Pi (run_V (rest := []) E hml hl.1 (c_X1_isOpenFor l  (upL_same V w S) hw (by omega) (nI i) hL) k_X1_isOpenFor ⟨rfl, rfl, Nat.le_of_ble_eq_true rfl, Nat.le_of_ble_eq_true rfl⟩ gw_446 gw_447 gw_448 hP (rv_ln E hP hw) rfl rfl (Nat.le_of_ble_eq_true rfl) ⟨Nat.zero_le _, Nat.zero_le _⟩ dX1_takeTurn_39) ?_
          refine lv_if_eq (tgt := 52) E.1 E.2.1 dX1_takeTurn_42 (by decide) (fun c_42 => ?_) (fun c_42 => ?_)
          · refine lv_iload_n E.1 E.2.1 dX1_takeTurn_52 rfl (lv_at hl 1 rfl) ?_
            refine lv_iconst (v := (-1)) E.1 E.2.1 dX1_takeTurn_53 (by decide) ?_
            refine lv_icmp_ne (tgt := 61) E.1 E.2.1 dX1_takeTurn_54 (by decide) (fun c_54 => ?_) (fun c_54 => ?_)
            · refine lv_iload_n E.1 E.2.1 dX1_takeTurn_61 rfl (lv_at hl 1 rfl) ?_
              refine lv_istore_n (lv' := [(2, .int f), (3, .int (nI r)), (0, .ref (ad Z (cLn w))), (1, .int (nI i))]) E.1 E.2.1 dX1_takeTurn_62 rfl hl (by decide) rfl (fun ls hl => ?_)
              refine lv_iinc (v := (nI (r + 1))) (lv' := [(3, .int (nI (r + 1))), (2, .int f), (0, .ref (ad Z (cLn w))), (1, .int (nI i))]) E.1 E.2.1 dX1_takeTurn_63 hl (k := 1) rfl (nI_1 _) (by decide) rfl (fun ls hl => ?_)
              refine lv_goto (tgt := 4) E.1 E.2.1 dX1_takeTurn_66 (by decide) ?_
              exact ih_4 (r + 1) _ (by omega) (by rw [← ha, show nR S - r = (nR S - (r + 1)) + 1 from by omega]; simp [turnL, c_9, c_28, (b2i_t c_28), c_42, (b2i_f c_42), c_54]) (by first | exact hf | exact Or.inr (vp_in_nI (by omega) (by omega))) (by omega) H locs hP hS ls (lv_sub hl [0, 1, 2, 3] rfl)
            · refine lv_iload_n E.1 E.2.1 dX1_takeTurn_57 rfl (lv_at hl 0 rfl) ?_
              refine lv_goto (tgt := 62) E.1 E.2.1 dX1_takeTurn_58 (by decide) ?_
              refine lv_istore_n (lv' := [(2, .int (nI r)), (3, .int (nI r)), (0, .ref (ad Z (cLn w))), (1, .int (nI i))]) E.1 E.2.1 dX1_takeTurn_62 rfl hl (by decide) rfl (fun ls hl => ?_)
              refine lv_iinc (v := (nI (r + 1))) (lv' := [(3, .int (nI (r + 1))), (2, .int (nI r)), (0, .ref (ad Z (cLn w))), (1, .int (nI i))]) E.1 E.2.1 dX1_takeTurn_63 hl (k := 1) rfl (nI_1 _) (by decide) rfl (fun ls hl => ?_)
              refine lv_goto (tgt := 4) E.1 E.2.1 dX1_takeTurn_66 (by decide) ?_
              exact ih_4 (r + 1) _ (by omega) (by rw [← ha, show nR S - r = (nR S - (r + 1)) + 1 from by omega]; simp [turnL, c_9, c_28, (b2i_t c_28), c_42, (b2i_f c_42), c_54]) (by first | exact hf | exact Or.inr (vp_in_nI (by omega) (by omega))) (by omega) H locs hP hS ls (lv_sub hl [0, 1, 2, 3] rfl)
          · refine lv_aload_n E.1 E.2.1 dX1_takeTurn_45 rfl (lv_at hl 2 rfl) ?_
            refine lv_iload_n E.1 E.2.1 dX1_takeTurn_46 rfl (lv_at hl 3 rfl) ?_
            refine lv_iload_n E.1 E.2.1 dX1_takeTurn_47 rfl (lv_at hl 0 rfl) ?_
            refine go_Xv (run_V (rest := []) E hml hl.1 (c_X1_setOut l hA (V' := upL V w (setOutF S i r)) (upL_same V w S) hw i r (by omega) (by omega) hL (upL_upL V w _ _)) k_X1_setOut ⟨rfl, rfl, Nat.le_of_ble_eq_true rfl, Nat.le_of_ble_eq_true rfl⟩ gw_459 gw_460 gw_461 hP (rv_ln E hP hw) rfl rfl (Nat.le_of_ble_eq_true rfl) ⟨Nat.zero_le _, Nat.zero_le _⟩ dX1_takeTurn_48) hS (fun H locs hP hS => ?_)
            exact e_vX E hr hlk hP hS (fin1 hV' (by rw [← ha, show nR S - r = (nR S - (r + 1)) + 1 from by omega]; simp [turnL, c_9, c_28, (b2i_t c_28), c_42, (b2i_t c_42)])) dX1_takeTurn_51
  exact loop_4 (nR S + 1) 0 _ (by omega) rfl (Or.inl rfl) (Nat.zero_le _) _ _ (by rw [show upL V w S = V from by rw [← hV]; exact upL_self V w]; exact hP) hS _ (lv_sub hl [0, 1, 2, 3] rfl)

abbrev rm_X1_giveTurns : Room := { frames := 4, cells := 0, slots := 0, locals := 92 }
theorem k_X1_giveTurns : Card yX1_giveTurns cX1_giveTurns 4 none 0 := ⟨gw_423, gw_12, by decide +kernel, by decide +kernel⟩
set_option maxHeartbeats 4000000 in
set_option maxRecDepth 20000 in
theorem c_X1_giveTurns (l : Launch) {Z : Gm} (hA : AA Z) {V : Nat → St} {V' : Nat → St} {w : Nat} {S : St} (hV : V w = S) (hw : w < 2) (hL : Lim S) (hV' : upL V w (giveF S) = V') : Met l yX1_giveTurns (.code yX1_giveTurns cX1_giveTurns 4 none :: gG) rm_X1_giveTurns (PW Z V [.ref (ad Z (cLn w))]) (QX Z none V') 0 0 (inW Z) := by
  refine met_of (by decide +kernel) (Nat.le_of_ble_eq_true rfl) ?_
  intro p e s m args below meth c ls E hr hlk hml hP hl
  have E : EE Z p s m args c cX1_giveTurns RX1 := E
  have hl : lv_has ls 4 [(0, .ref (ad Z (cLn w)))] := hl
  have hS : va_S (inW Z) s.heap s.heap [] := va_S.rf
  have hT := hL.2.2
  have hR := hL.2.1
  have hB := hL.1
  refine lv_iconst (v := 0) E.1 E.2.1 dX1_giveTurns_0 (by decide) ?_
  refine lv_istore_n (lv' := [(1, .int 0), (0, .ref (ad Z (cLn w)))]) E.1 E.2.1 dX1_giveTurns_1 rfl hl (by decide) rfl (fun ls hl => ?_)
  refine lv_iconst (v := 0) E.1 E.2.1 dX1_giveTurns_2 (by decide) ?_
  refine lv_istore_n (lv' := [(2, .int 0), (1, .int 0), (0, .ref (ad Z (cLn w)))]) E.1 E.2.1 dX1_giveTurns_3 rfl hl (by decide) rfl (fun ls hl => ?_)
  have loop_4 : ∀ (n_4 : Nat) (q : Nat) (t : Int32) (S1 : St), nT S - q < n_4 → (giveL (nT S - q) S1 t = giveF S) → (KC S1 S) → (q ≤ nT S) → ∀ (H : Heap) (locs : List Loc), va_P (gD Z) vwCl (bw Z (upL V w S1)) H → va_S (inW Z) s.heap H locs → ∀ (ls : Array Slot), lv_has ls 4 [(2, .int (nI q)), (1, .int t), (0, .ref (ad Z (cLn w)))] → W p l e rm_X1_giveTurns s m args below meth c H locs 0 0 (MQ below (QX Z none V') args s 0 0 (inW Z)) (F0 m 4 ls []) := by
    intro n_4
    induction n_4 with
    | zero => intro q t S1 hm_4; exact absurd hm_4 (by omega)
    | succ n_4 ih_4 =>
      intro q t S1 hm_4 ha hkc hq H locs hP hS ls hl
      have hT1 : nT S1 ≤ 8 := by rw [nT_of hkc]; exact hT
      refine lv_iload_n E.1 E.2.1 dX1_giveTurns_4 rfl (lv_at hl 0 rfl) ?_
      refine lv_aload_n E.1 E.2.1 dX1_giveTurns_5 rfl (lv_at hl 2 rfl) ?_
      refine g_ln (v := .int (S1 6 0 0)) E hP (upL_same V w S1) hw 6 (by decide) gw_148 rfl dX1_giveTurns_6 ?_
      refine lv_icmp_ge (tgt := 41) E.1 E.2.1 dX1_giveTurns_9 (by decide) (fun c_9 => ?_) (fun c_9 => ?_)
      · rw [hkc.2.2] at c_9
        have hd : nT S ≤ q := lq1 (by omega) c_9
        exact e_vX E hr hlk hP hS (fin1 hV' (by rw [← ha, show nT S - q = 0 from by omega]; rfl)) dX1_giveTurns_41
      · rw [hkc.2.2] at c_9
        have hd : q < nT S := lq2 (by omega) c_9
        refine lv_aload_n E.1 E.2.1 dX1_giveTurns_12 rfl (lv_at hl 2 rfl) ?_
        refine lv_iload_n E.1 E.2.1 dX1_giveTurns_13 rfl (lv_at hl 1 rfl) ?_
        refine go_Pi (run_V (rest := []) E hml hl.1 (c_X1_firstReady l  (upL_same V w S1) hw t (Lim_of hkc hL)) k_X1_firstReady ⟨rfl, rfl, Nat.le_of_ble_eq_true rfl, Nat.le_of_ble_eq_true rfl⟩ gw_424 gw_425 gw_426 hP (rv_ln E hP hw) rfl rfl (Nat.le_of_ble_eq_true rfl) ⟨Nat.zero_le _, Nat.zero_le _⟩ dX1_giveTurns_14) ?_
        refine lv_topi (fun x ex => ?_)
        refine lv_istore_n (lv' := [(3, .int x), (2, .int (nI q)), (1, .int t), (0, .ref (ad Z (cLn w)))]) E.1 E.2.1 dX1_giveTurns_17 rfl hl (by decide) rfl (fun ls hl => ?_)
        refine lv_iload_n E.1 E.2.1 dX1_giveTurns_18 rfl (lv_at hl 0 rfl) ?_
        refine lv_iconst (v := (-1)) E.1 E.2.1 dX1_giveTurns_19 (by decide) ?_
        refine lv_icmp_ne (tgt := 24) E.1 E.2.1 dX1_giveTurns_20 (by decide) (fun c_20 => ?_) (fun c_20 => ?_)
        · obtain ⟨j, hj, rfl⟩ : ∃ j, j < nT S1 ∧ x = nI j := by rw [ex]; exact (fstL_in S1 t (nT S1)).resolve_left (by rw [← ex]; exact c_20)
          refine lv_iload_n E.1 E.2.1 dX1_giveTurns_24 rfl (lv_at hl 2 rfl) ?_
          refine lv_iconst (v := 1) E.1 E.2.1 dX1_giveTurns_25 (by decide) ?_
          refine lv_iload_n E.1 E.2.1 dX1_giveTurns_26 rfl (lv_at hl 0 rfl) ?_
          refine lv_ishl E.1 E.2.1 dX1_giveTurns_27 ?_
          refine lv_ior E.1 E.2.1 dX1_giveTurns_28 ?_
          refine lv_istore_n (lv' := [(1, .int (t ||| (1 <<< ((nI j) &&& 31)))), (3, .int (nI j)), (2, .int (nI q)), (0, .ref (ad Z (cLn w)))]) E.1 E.2.1 dX1_giveTurns_29 rfl hl (by decide) rfl (fun ls hl => ?_)
          refine lv_aload_n E.1 E.2.1 dX1_giveTurns_30 rfl (lv_at hl 3 rfl) ?_
          refine lv_iload_n E.1 E.2.1 dX1_giveTurns_31 rfl (lv_at hl 1 rfl) ?_
          refine go_Xv (run_V (rest := []) E hml hl.1 (c_X1_takeTurn l hA (V' := upL V w (turnF S1 j)) (upL_same V w S1) hw j (by omega) (Lim_of hkc hL) (upL_upL V w _ _)) k_X1_takeTurn ⟨rfl, rfl, Nat.le_of_ble_eq_true rfl, Nat.le_of_ble_eq_true rfl⟩ gw_434 gw_435 gw_436 hP (rv_ln E hP hw) rfl rfl (Nat.le_of_ble_eq_true rfl) ⟨Nat.zero_le _, Nat.zero_le _⟩ dX1_giveTurns_32) hS (fun H locs hP hS => ?_)
          refine lv_iinc (v := (nI (q + 1))) (lv' := [(2, .int (nI (q + 1))), (1, .int (t ||| (1 <<< ((nI j) &&& 31)))), (3, .int (nI j)), (0, .ref (ad Z (cLn w)))]) E.1 E.2.1 dX1_giveTurns_35 hl (k := 2) rfl (nI_1 _) (by decide) rfl (fun ls hl => ?_)
          refine lv_goto (tgt := 4) E.1 E.2.1 dX1_giveTurns_38 (by decide) ?_
          exact ih_4 (q + 1) _ _ (by omega) (by rw [← ha, show nT S - q = (nT S - (q + 1)) + 1 from by omega]; simp [giveL, ← ex, nI_ne_m1 (show j < 2 ^ 31 by omega), nI_clamp (show j < 2 ^ 31 by omega)]) (KC_turn hkc) (by omega) H locs hP hS ls (lv_sub hl [0, 1, 3] rfl)
        · exact e_vX E hr hlk hP hS (fin1 hV' (by rw [← ha, show nT S - q = (nT S - (q + 1)) + 1 from by omega]; simp [giveL, ← ex, c_20])) dX1_giveTurns_23
  exact loop_4 (nT S + 1) 0 0 S (by omega) rfl (KC_refl S) (Nat.zero_le _) _ _ (by rw [show upL V w S = V from by rw [← hV]; exact upL_self V w]; exact hP) hS _ (lv_sub hl [0, 1, 2] rfl)

abbrev rm_X1_forgetWhoWaits : Room := { frames := 0, cells := 0, slots := 0, locals := 0 }
theorem k_X1_forgetWhoWaits : Card yX1_forgetWhoWaits cX1_forgetWhoWaits 2 none 0 := ⟨gw_375, gw_12, by decide +kernel, by decide +kernel⟩
set_option maxHeartbeats 4000000 in
set_option maxRecDepth 20000 in
theorem c_X1_forgetWhoWaits (l : Launch) {Z : Gm} (hA : AA Z) {V : Nat → St} {V' : Nat → St} {w : Nat} {S : St} (hV : V w = S) (hw : w < 2) (hL : Lim S) (hV' : upL V w (forgetF S) = V') : Met l yX1_forgetWhoWaits (.code yX1_forgetWhoWaits cX1_forgetWhoWaits 2 none :: gG) rm_X1_forgetWhoWaits (PW Z V [.ref (ad Z (cLn w))]) (QX Z none V') 0 0 (inW Z) := by
  refine met_of (by decide +kernel) (Nat.le_of_ble_eq_true rfl) ?_
  intro p e s m args below meth c ls E hr hlk hml hP hl
  have E : EE Z p s m args c cX1_forgetWhoWaits RX1 := E
  have hl : lv_has ls 2 [(0, .ref (ad Z (cLn w)))] := hl
  have hS : va_S (inW Z) s.heap s.heap [] := va_S.rf
  have hT := hL.2.2
  have hR := hL.2.1
  have hB := hL.1
  refine lv_iconst (v := 0) E.1 E.2.1 dX1_forgetWhoWaits_0 (by decide) ?_
  refine lv_istore_n (lv' := [(1, .int 0), (0, .ref (ad Z (cLn w)))]) E.1 E.2.1 dX1_forgetWhoWaits_1 rfl hl (by decide) rfl (fun ls hl => ?_)
  have loop_2 : ∀ (n_2 : Nat) (i : Nat) (S1 : St), nT S - i < n_2 → (S1 = forgetI S i) → (i ≤ nT S) → ∀ (H : Heap) (locs : List Loc), va_P (gD Z) vwCl (bw Z (upL V w S1)) H → va_S (inW Z) s.heap H locs → ∀ (ls : Array Slot), lv_has ls 2 [(1, .int (nI i)), (0, .ref (ad Z (cLn w)))] → W p l e rm_X1_forgetWhoWaits s m args below meth c H locs 0 0 (MQ below (QX Z none V') args s 0 0 (inW Z)) (F0 m 2 ls []) := by
    intro n_2
    induction n_2 with
    | zero => intro i S1 hm_2; exact absurd hm_2 (by omega)
    | succ n_2 ih_2 =>
      intro i S1 hm_2 ha hi H locs hP hS ls hl
      have hkc : KC S1 S := by rw [ha]; exact KC_forgetI S i
      refine lv_iload_n E.1 E.2.1 dX1_forgetWhoWaits_2 rfl (lv_at hl 0 rfl) ?_
      refine lv_aload_n E.1 E.2.1 dX1_forgetWhoWaits_3 rfl (lv_at hl 1 rfl) ?_
      refine g_ln (v := .int (S1 6 0 0)) E hP (upL_same V w S1) hw 6 (by decide) gw_148 rfl dX1_forgetWhoWaits_4 ?_
      refine lv_icmp_ge (tgt := 26) E.1 E.2.1 dX1_forgetWhoWaits_7 (by decide) (fun c_7 => ?_) (fun c_7 => ?_)
      · rw [hkc.2.2] at c_7
        have hd : nT S ≤ i := lq1 (by omega) c_7
        exact e_vX E hr hlk hP hS (fin1 hV' (by rw [ha, show i = nT S from by omega]; rfl)) dX1_forgetWhoWaits_26
      · rw [hkc.2.2] at c_7
        have hd : i < nT S := lq2 (by omega) c_7
        refine lv_aload_n E.1 E.2.1 dX1_forgetWhoWaits_10 rfl (lv_at hl 1 rfl) ?_
        refine g_ln E hP (upL_same V w S1) hw 5 (by decide) gw_25 rfl dX1_forgetWhoWaits_11 ?_
        refine lv_iload_n E.1 E.2.1 dX1_forgetWhoWaits_14 rfl (lv_at hl 0 rfl) ?_
        refine a_tr (k := i) E hP hw (nI_clamp (by omega)) (vp_in_nI (by omega) (by omega)) dX1_forgetWhoWaits_15 ?_
        refine lv_iconst (v := (-1)) E.1 E.2.1 dX1_forgetWhoWaits_16 (by decide) ?_
        refine p_tr E hP hA hS (upL_same V w S1) hw (by omega) 14 (by decide) gw_265 (V' := upL V w (up S1 44 i 0 (-1))) (upL_upL V w _ _) dX1_forgetWhoWaits_17 (fun H locs hP hS => ?_)
        refine lv_iinc (v := (nI (i + 1))) (lv' := [(1, .int (nI (i + 1))), (0, .ref (ad Z (cLn w)))]) E.1 E.2.1 dX1_forgetWhoWaits_20 hl (k := 0) rfl (nI_1 _) (by decide) rfl (fun ls hl => ?_)
        refine lv_goto (tgt := 2) E.1 E.2.1 dX1_forgetWhoWaits_23 (by decide) ?_
        exact ih_2 (i + 1) _ (by omega) (by rw [ha]; rfl) (by omega) H locs hP hS ls (lv_sub hl [0, 1] rfl)
  exact loop_2 (nT S + 1) 0 S (by omega) rfl (Nat.zero_le _) _ _ (by rw [show upL V w S = V from by rw [← hV]; exact upL_self V w]; exact hP) hS _ (lv_sub hl [0, 1] rfl)

abbrev rm_X1_passTicks : Room := { frames := 5, cells := 0, slots := 0, locals := 115 }
theorem k_X1_passTicks : Card yX1_passTicks cX1_passTicks 4 none 1 := ⟨gw_371, gw_12, by decide +kernel, by decide +kernel⟩
set_option maxHeartbeats 4000000 in
set_option maxRecDepth 20000 in
theorem c_X1_passTicks (l : Launch) {Z : Gm} (hA : AA Z) {V : Nat → St} {V' : Nat → St} {w : Nat} {S : St} (hV : V w = S) (hw : w < 2) (x : Int32) (hL : Lim S) (hV' : upL V w (ticksF S x.toNatClampNeg) = V') : Met l yX1_passTicks (.code yX1_passTicks cX1_passTicks 4 none :: gG) rm_X1_passTicks (PW Z V [.ref (ad Z (cLn w)), .int x]) (QX Z none V') 0 0 (inW Z) := by
  refine met_of (by decide +kernel) (Nat.le_of_ble_eq_true rfl) ?_
  intro p e s m args below meth c ls E hr hlk hml hP hl
  have E : EE Z p s m args c cX1_passTicks RX1 := E
  have hl : lv_has ls 4 [(0, .ref (ad Z (cLn w))), (1, .int x)] := hl
  have hS : va_S (inW Z) s.heap s.heap [] := va_S.rf
  have hT := hL.2.2
  have hR := hL.2.1
  have hB := hL.1
  have h31 := clamp_lt31 x
  refine lv_iconst (v := 0) E.1 E.2.1 dX1_passTicks_0 (by decide) ?_
  refine lv_istore_n (lv' := [(2, .int 0), (0, .ref (ad Z (cLn w))), (1, .int x)]) E.1 E.2.1 dX1_passTicks_1 rfl hl (by decide) rfl (fun ls hl => ?_)
  have loop_2 : ∀ (n_2 : Nat) (g : Nat) (S1 : St), x.toNatClampNeg - g < n_2 → (S1 = ticksF S g) → (g ≤ x.toNatClampNeg) → ∀ (H : Heap) (locs : List Loc), va_P (gD Z) vwCl (bw Z (upL V w S1)) H → va_S (inW Z) s.heap H locs → ∀ (ls : Array Slot), lv_has ls 4 [(2, .int (nI g)), (0, .ref (ad Z (cLn w))), (1, .int x)] → W p l e rm_X1_passTicks s m args below meth c H locs 0 0 (MQ below (QX Z none V') args s 0 0 (inW Z)) (F0 m 2 ls []) := by
    intro n_2
    induction n_2 with
    | zero => intro g S1 hm_2; exact absurd hm_2 (by omega)
    | succ n_2 ih_2 =>
      intro g S1 hm_2 ha hg H locs hP hS ls hl
      have hkc : KC S1 S := by rw [ha]; exact KC_ticks (KC_refl S)
      refine lv_iload_n E.1 E.2.1 dX1_passTicks_2 rfl (lv_at hl 0 rfl) ?_
      refine lv_iload_n E.1 E.2.1 dX1_passTicks_3 rfl (lv_at hl 2 rfl) ?_
      refine lv_icmp_ge (tgt := 64) E.1 E.2.1 dX1_passTicks_4 (by decide) (fun c_4 => ?_) (fun c_4 => ?_)
      · have hd : x.toNatClampNeg ≤ g := lq1 (by omega) c_4
        exact e_vX E hr hlk hP hS (fin1 hV' (by rw [ha, show g = x.toNatClampNeg from by omega])) dX1_passTicks_64
      · have hd : g < x.toNatClampNeg := lq2 (by omega) c_4
        refine lv_aload_n E.1 E.2.1 dX1_passTicks_7 rfl (lv_at hl 1 rfl) ?_
        refine lv_dup E.1 E.2.1 dX1_passTicks_8 rfl ?_
        refine g_ln (v := .int (S1 9 0 0)) E hP (upL_same V w S1) hw 9 (by decide) gw_278 rfl dX1_passTicks_9 ?_
        refine lv_iconst (v := 1) E.1 E.2.1 dX1_passTicks_12 (by decide) ?_
        refine lv_iadd E.1 E.2.1 dX1_passTicks_13 ?_
        refine p_ln E hP hA hS (upL_same V w S1) hw 9 (by decide) gw_278 (V' := upL V w (up S1 9 0 0 ((S1 9 0 0) + 1))) (upL_upL V w _ _) dX1_passTicks_14 (fun H locs hP hS => ?_)
        refine lv_aload_n E.1 E.2.1 dX1_passTicks_17 rfl (lv_at hl 1 rfl) ?_
        refine go_Xv (run_V (rest := []) E hml hl.1 (c_X1_forgetWhoWaits l hA (V' := upL V w (forgetF (up S1 9 0 0 ((S1 9 0 0) + 1)))) (upL_same V w (up S1 9 0 0 ((S1 9 0 0) + 1))) hw (Lim_of (KC_up (by decide) hkc) hL) (upL_upL V w _ _)) k_X1_forgetWhoWaits ⟨rfl, rfl, Nat.le_of_ble_eq_true rfl, Nat.le_of_ble_eq_true rfl⟩ gw_372 gw_373 gw_374 hP (rv_ln E hP hw) rfl rfl (Nat.le_of_ble_eq_true rfl) ⟨Nat.zero_le _, Nat.zero_le _⟩ dX1_passTicks_18) hS (fun H locs hP hS => ?_)
        refine lv_iconst (v := 0) E.1 E.2.1 dX1_passTicks_21 (by decide) ?_
        refine lv_istore_n (lv' := [(3, .int 0), (2, .int (nI g)), (0, .ref (ad Z (cLn w))), (1, .int x)]) E.1 E.2.1 dX1_passTicks_22 rfl hl (by decide) rfl (fun ls hl => ?_)
        have loop_23 : ∀ (n_23 : Nat) (i : Nat) (S2 : St), nT S - i < n_23 → (S2 = rollsI (forgetF (up S1 9 0 0 (S1 9 0 0 + 1))) i) → (i ≤ nT S) → ∀ (H : Heap) (locs : List Loc), va_P (gD Z) vwCl (bw Z (upL V w S2)) H → va_S (inW Z) s.heap H locs → ∀ (ls : Array Slot), lv_has ls 4 [(3, .int (nI i)), (2, .int (nI g)), (0, .ref (ad Z (cLn w))), (1, .int x)] → W p l e rm_X1_passTicks s m args below meth c H locs 0 0 (MQ below (QX Z none V') args s 0 0 (inW Z)) (F0 m 23 ls []) := by
          intro n_23
          induction n_23 with
          | zero => intro i S2 hm_23; exact absurd hm_23 (by omega)
          | succ n_23 ih_23 =>
            intro i S2 hm_23 hb hi H locs hP hS ls hl
            have hkc2 : KC S2 S := by rw [hb]; exact KC_tr (KC_rollsI _ i) (KC_forget (KC_up (by decide) hkc))
            refine lv_iload_n E.1 E.2.1 dX1_passTicks_23 rfl (lv_at hl 0 rfl) ?_
            refine lv_aload_n E.1 E.2.1 dX1_passTicks_24 rfl (lv_at hl 2 rfl) ?_
            refine g_ln (v := .int (S2 6 0 0)) E hP (upL_same V w S2) hw 6 (by decide) gw_148 rfl dX1_passTicks_25 ?_
            refine lv_icmp_ge (tgt := 54) E.1 E.2.1 dX1_passTicks_28 (by decide) (fun c_28 => ?_) (fun c_28 => ?_)
            · rw [hkc2.2.2] at c_28
              have hd : nT S ≤ i := lq1 (by omega) c_28
              refine lv_aload_n E.1 E.2.1 dX1_passTicks_54 rfl (lv_at hl 2 rfl) ?_
              refine go_Xv (run_V (rest := []) E hml hl.1 (c_X1_giveTurns l hA (V' := upL V w (giveF S2)) (upL_same V w S2) hw (Lim_of hkc2 hL) (upL_upL V w _ _)) k_X1_giveTurns ⟨rfl, rfl, Nat.le_of_ble_eq_true rfl, Nat.le_of_ble_eq_true rfl⟩ gw_420 gw_421 gw_422 hP (rv_ln E hP hw) rfl rfl (Nat.le_of_ble_eq_true rfl) ⟨Nat.zero_le _, Nat.zero_le _⟩ dX1_passTicks_55) hS (fun H locs hP hS => ?_)
              refine lv_iinc (v := (nI (g + 1))) (lv' := [(2, .int (nI (g + 1))), (3, .int (nI i)), (0, .ref (ad Z (cLn w))), (1, .int x)]) E.1 E.2.1 dX1_passTicks_58 hl (k := 1) rfl (nI_1 _) (by decide) rfl (fun ls hl => ?_)
              refine lv_goto (tgt := 2) E.1 E.2.1 dX1_passTicks_61 (by decide) ?_
              exact ih_2 (g + 1) _ (by omega) (by rw [hb, show i = nT S from by omega]; exact tick_step hkc ha) (by omega) H locs hP hS ls (lv_sub hl [0, 2, 3] rfl)
            · rw [hkc2.2.2] at c_28
              have hd : i < nT S := lq2 (by omega) c_28
              refine lv_aload_n E.1 E.2.1 dX1_passTicks_31 rfl (lv_at hl 2 rfl) ?_
              refine g_ln E hP (upL_same V w S2) hw 5 (by decide) gw_25 rfl dX1_passTicks_32 ?_
              refine lv_iload_n E.1 E.2.1 dX1_passTicks_35 rfl (lv_at hl 0 rfl) ?_
              refine a_tr (k := i) E hP hw (nI_clamp (by omega)) (vp_in_nI (by omega) (by omega)) dX1_passTicks_36 ?_
              refine go_Pi (run_V (rest := []) E hml hl.1 (c_X3_isOnBlock l  (upL_same V w S2) hw (by omega)) k_X3_isOnBlock ⟨rfl, rfl, Nat.le_of_ble_eq_true rfl, Nat.le_of_ble_eq_true rfl⟩ gw_253 gw_254 gw_255 hP (rv_tr E hP hw (by omega)) rfl rfl (Nat.le_of_ble_eq_true rfl) ⟨Nat.zero_le _, Nat.zero_le _⟩ dX1_passTicks_37) ?_
              refine lv_if_eq (tgt := 48) E.1 E.2.1 dX1_passTicks_40 (by decide) (fun c_40 => ?_) (fun c_40 => ?_)
              · refine lv_iinc (v := (nI (i + 1))) (lv' := [(3, .int (nI (i + 1))), (2, .int (nI g)), (0, .ref (ad Z (cLn w))), (1, .int x)]) E.1 E.2.1 dX1_passTicks_48 hl (k := 0) rfl (nI_1 _) (by decide) rfl (fun ls hl => ?_)
                refine lv_goto (tgt := 23) E.1 E.2.1 dX1_passTicks_51 (by decide) ?_
                exact ih_23 (i + 1) _ (by omega) (rolls_step hb (by simp [c_4, c_28, c_40, (b2i_f c_40)])) (by omega) H locs hP hS ls (lv_sub hl [0, 1, 2, 3] rfl)
              · refine lv_aload_n E.1 E.2.1 dX1_passTicks_43 rfl (lv_at hl 2 rfl) ?_
                refine lv_iload_n E.1 E.2.1 dX1_passTicks_44 rfl (lv_at hl 0 rfl) ?_
                refine go_Xv (run_V (rest := []) E hml hl.1 (c_X1_roll l hA (V' := upL V w (rollF S2 i)) (upL_same V w S2) hw i (by omega) (Lim_of hkc2 hL) (upL_upL V w _ _)) k_X1_roll ⟨rfl, rfl, Nat.le_of_ble_eq_true rfl, Nat.le_of_ble_eq_true rfl⟩ gw_376 gw_377 gw_378 hP (rv_ln E hP hw) rfl rfl (Nat.le_of_ble_eq_true rfl) ⟨Nat.zero_le _, Nat.zero_le _⟩ dX1_passTicks_45) hS (fun H locs hP hS => ?_)
                refine lv_iinc (v := (nI (i + 1))) (lv' := [(3, .int (nI (i + 1))), (2, .int (nI g)), (0, .ref (ad Z (cLn w))), (1, .int x)]) E.1 E.2.1 dX1_passTicks_48 hl (k := 0) rfl (nI_1 _) (by decide) rfl (fun ls hl => ?_)
                refine lv_goto (tgt := 23) E.1 E.2.1 dX1_passTicks_51 (by decide) ?_
                exact ih_23 (i + 1) _ (by omega) (rolls_step hb (by simp [c_4, c_28, c_40, (b2i_t c_40)])) (by omega) H locs hP hS ls (lv_sub hl [0, 1, 2, 3] rfl)
        exact loop_23 (nT S + 1) 0 (forgetF (up S1 9 0 0 (S1 9 0 0 + 1))) (by omega) rfl (Nat.zero_le _) _ _ hP hS _ (lv_sub hl [0, 1, 2, 3] rfl)
  exact loop_2 (x.toNatClampNeg + 1) 0 S (by omega) rfl (Nat.zero_le _) _ _ (by rw [show upL V w S = V from by rw [← hV]; exact upL_self V w]; exact hP) hS _ (lv_sub hl [0, 1, 2] rfl)
end
section
/-! The copies: a Line takes what another holds. -/
theorem bw_putG {Z : Gm} {V : Nat → St} {w f k : Nat} {S S' : St} {e : va_E} (hV : V w = S) (hw : w < 2) (hk : if f < 10 then k = 0 else if f < 30 then k < 16 else k < 8) (hne : ∀ f' k' j', ¬ (f' = f ∧ k' = k) → S' f' k' j' = S f' k' j') (he : cellOf Z (upL V w S') (ownc w f k) = e) : (bw Z V).set (ownc w f k) (ad Z (ownc w f k), e) = bw Z (upL V w S') := by
  obtain ⟨h1, h2⟩ := ownc_lt hw hk
  apply List.ext_getElem?
  intro i
  by_cases hi : i < 171
  · rw [List.getElem?_set, bw_at hi, bw_at hi]
    by_cases hn : ownc w f k = i
    · subst hn
      rw [if_pos rfl, if_pos (by simp [bw]; omega), he]
    · rw [if_neg hn]
      refine congrArg (fun e => some (ad Z i, e)) ?_
      unfold cellOf
      by_cases h0 : i = 0
      · rw [if_pos h0, if_pos h0]
      · rw [if_neg h0, if_neg h0]
        by_cases hww : (i - 1) / 85 = w
        · rw [hww, upL_same, hV]
          exact (line_cg (n := ownc w f k) (by omega) (by omega) (fun f' k' j' hne' => hne f' k' j' (by
            rintro ⟨rfl, rfl⟩
            exact hne' rfl))).symm
        · rw [upL_ne hww]
  · rw [List.getElem?_eq_none (by simp [bw]; omega), List.getElem?_eq_none (by simp [bw]; omega)]
section COPY
variable {p : Program} {l : Launch} {e : Env} {R : Room} {s : State} {m : MethodId} {args : Array Value} {below : List Frame} {meth : Method} {c : Code} {H : Heap} {locs : List Loc} {cells slots : Nat} {Q : State → Prop} {cc : ByteArray} {pc nL : Nat} {ls : Array Slot} {rest : List Value} {Z : Gm} {V V' : Nat → St} {w w' k : Nat} {S S' : St} {own : String} {index : Nat} {H0 : Heap}
theorem y_arr {f n : Nat} {N : Int32} (hN : N.toNatClampNeg = n) (hN0 : ¬ N < 0) (hat : ∀ (V1 : Nat → St) (S1 : St) (w1 : Nat), w1 < 2 → V1 w1 = S1 → (bw Z V1)[ownc w1 f k]? = some (ad Z (ownc w1 f k), .inl (Z.2.2.1, n, .inl (fun j => S1 f k j)))) (hk : if f < 10 then k = 0 else if f < 30 then k < 16 else k < 8) (E : EE Z p s m args c cc own) (hml : c.maxLocals = nL) (hls : ls.size = nL) (hP : va_P (gD Z) vwCl (bw Z V) H) (hA : AA Z) (hS : va_S (inW Z) H0 H locs) (hV : V w = S) (hw : w < 2) (hVd : V w' = S') (hw' : w' < 2) (hl : Cond.methodLink own index arraycopyName ∈ gG) (hV' : upL V w' (cpA S' S f k n) = V')
    (hframes : 1 ≤ R.frames) (hlocals : (rest.map fun v => v.category).sum + (nativeFrameWords "java/lang/System" "arraycopy" 5 + 11) ≤ R.locals) (hdg : decode cc pc = .ok (.invokestatic index, 3))
    (kk : ∀ (H1 : Heap) (locs1 : List Loc), va_P (gD Z) vwCl (bw Z V') H1 → va_S (inW Z) H0 H1 locs1 → W p l e R s m args below meth c H1 locs1 cells slots Q (F0 m (pc + 3) ls rest)) : W p l e R s m args below meth c H locs cells slots Q (F0 m pc ls (.int N :: .int 0 :: .ref (ad Z (ownc w' f k)) :: .int 0 :: .ref (ad Z (ownc w f k)) :: rest)) := by
  subst hV'
  refine va_copyi E.1 E.2.1 (hml.trans hls.symm) E.2.2.1 (E.2.2.2.1 _ hl) (E.2.2.2.1 _ gw_340) (E.2.2.2.1 _ gw_341) (E.2.2.2.1 _ gw_342) E.2.2.2.2 hP (bw_D hA V) hS (ownc w f k) (ownc w' f k) 0 0 (hat V S w hw hV) (hat V S' w' hw' hVd) rfl rfl rfl (by decide) (by decide) hN0 (by rw [hN]; exact Nat.le_of_eq (Nat.zero_add n)) (by rw [hN]; exact Nat.le_of_eq (Nat.zero_add n)) (fun i _ => rfl) hframes hlocals hdg (fun H1 locs1 h1 _ h3 => kk H1 locs1 ?_ h3)
  have hb := bw_putG (Z := Z) (f := f) (k := k) (S' := cpA S' S f k n) (e := .inl (Z.2.2.1, n, .inl (va_cpy (fun j => S f k j) (fun j => S' f k j) 0 0 n))) hVd hw' hk (fun f1 k1 j1 h => by
    unfold cpA
    rw [if_neg]
    rintro ⟨rfl, rfl, -⟩
    exact h ⟨rfl, rfl⟩) (by
    have h0 := hat (upL V w' (cpA S' S f k n)) _ w' hw' (upL_same V w' _)
    rw [bw_at (by have := ownc_lt hw' hk; omega)] at h0
    rw [(Prod.mk.inj (Option.some.inj h0)).2]
    have e1 : (fun j => cpA S' S f k n f k j) = va_cpy (fun j => S f k j) (fun j => S' f k j) 0 0 n := by
      funext j
      simp only [cpA, va_cpy]
      by_cases hj : j < n
      · simp [hj]
      · simp [hj]
    rw [e1])
  rw [← hb]
  have z0 : (0 : Int32).toNatClampNeg = 0 := rfl
  rw [z0, hN] at h1
  exact h1
theorem y_pl (E : EE Z p s m args c cc own) (hml : c.maxLocals = nL) (hls : ls.size = nL) (hP : va_P (gD Z) vwCl (bw Z V) H) (hA : AA Z) (hS : va_S (inW Z) H0 H locs) (hV : V w = S) (hw : w < 2) (hVd : V w' = S') (hw' : w' < 2) (hl : Cond.methodLink own index arraycopyName ∈ gG) (hV' : upL V w' (cpA S' S 0 0 6) = V')
    (hframes : 1 ≤ R.frames) (hlocals : (rest.map fun v => v.category).sum + (nativeFrameWords "java/lang/System" "arraycopy" 5 + 11) ≤ R.locals) (hdg : decode cc pc = .ok (.invokestatic index, 3))
    (kk : ∀ (H1 : Heap) (locs1 : List Loc), va_P (gD Z) vwCl (bw Z V') H1 → va_S (inW Z) H0 H1 locs1 → W p l e R s m args below meth c H1 locs1 cells slots Q (F0 m (pc + 3) ls rest)) : W p l e R s m args below meth c H locs cells slots Q (F0 m pc ls (.int 6 :: .int 0 :: .ref (ad Z (cPl w')) :: .int 0 :: .ref (ad Z (cPl w)) :: rest)) :=
  y_arr (f := 0) (k := 0) (n := 6) rfl (by decide) (fun V1 S1 w1 h1 h2 => at_pl h2 h1) (by rw [if_pos (by omega)]) E hml hls hP hA hS hV hw hVd hw' hl hV' hframes hlocals hdg kk
theorem y_st (E : EE Z p s m args c cc own) (hml : c.maxLocals = nL) (hls : ls.size = nL) (hP : va_P (gD Z) vwCl (bw Z V) H) (hA : AA Z) (hS : va_S (inW Z) H0 H locs) (hV : V w = S) (hw : w < 2) (hVd : V w' = S') (hw' : w' < 2) (hk : k < 8) (hl : Cond.methodLink own index arraycopyName ∈ gG) (hV' : upL V w' (cpA S' S 33 k 8) = V')
    (hframes : 1 ≤ R.frames) (hlocals : (rest.map fun v => v.category).sum + (nativeFrameWords "java/lang/System" "arraycopy" 5 + 11) ≤ R.locals) (hdg : decode cc pc = .ok (.invokestatic index, 3))
    (kk : ∀ (H1 : Heap) (locs1 : List Loc), va_P (gD Z) vwCl (bw Z V') H1 → va_S (inW Z) H0 H1 locs1 → W p l e R s m args below meth c H1 locs1 cells slots Q (F0 m (pc + 3) ls rest)) : W p l e R s m args below meth c H locs cells slots Q (F0 m pc ls (.int 8 :: .int 0 :: .ref (ad Z (cSt w' k)) :: .int 0 :: .ref (ad Z (cSt w k)) :: rest)) :=
  y_arr (f := 33) (k := k) (n := 8) rfl (by decide) (fun V1 S1 w1 h1 h2 => at_st h2 h1 hk) (by rw [if_neg (by omega), if_neg (by omega)]; exact hk) E hml hls hP hA hS hV hw hVd hw' hl hV' hframes hlocals hdg kk
theorem y_tm (E : EE Z p s m args c cc own) (hml : c.maxLocals = nL) (hls : ls.size = nL) (hP : va_P (gD Z) vwCl (bw Z V) H) (hA : AA Z) (hS : va_S (inW Z) H0 H locs) (hV : V w = S) (hw : w < 2) (hVd : V w' = S') (hw' : w' < 2) (hk : k < 8) (hl : Cond.methodLink own index arraycopyName ∈ gG) (hV' : upL V w' (cpA S' S 34 k 8) = V')
    (hframes : 1 ≤ R.frames) (hlocals : (rest.map fun v => v.category).sum + (nativeFrameWords "java/lang/System" "arraycopy" 5 + 11) ≤ R.locals) (hdg : decode cc pc = .ok (.invokestatic index, 3))
    (kk : ∀ (H1 : Heap) (locs1 : List Loc), va_P (gD Z) vwCl (bw Z V') H1 → va_S (inW Z) H0 H1 locs1 → W p l e R s m args below meth c H1 locs1 cells slots Q (F0 m (pc + 3) ls rest)) : W p l e R s m args below meth c H locs cells slots Q (F0 m pc ls (.int 8 :: .int 0 :: .ref (ad Z (cTm w' k)) :: .int 0 :: .ref (ad Z (cTm w k)) :: rest)) :=
  y_arr (f := 34) (k := k) (n := 8) rfl (by decide) (fun V1 S1 w1 h1 h2 => at_tm h2 h1 hk) (by rw [if_neg (by omega), if_neg (by omega)]; exact hk) E hml hls hP hA hS hV hw hVd hw' hl hV' hframes hlocals hdg kk
theorem y_wf (E : EE Z p s m args c cc own) (hml : c.maxLocals = nL) (hls : ls.size = nL) (hP : va_P (gD Z) vwCl (bw Z V) H) (hA : AA Z) (hS : va_S (inW Z) H0 H locs) (hV : V w = S) (hw : w < 2) (hVd : V w' = S') (hw' : w' < 2) (hk : k < 8) (hl : Cond.methodLink own index arraycopyName ∈ gG) (hV' : upL V w' (cpA S' S 45 k 8) = V')
    (hframes : 1 ≤ R.frames) (hlocals : (rest.map fun v => v.category).sum + (nativeFrameWords "java/lang/System" "arraycopy" 5 + 11) ≤ R.locals) (hdg : decode cc pc = .ok (.invokestatic index, 3))
    (kk : ∀ (H1 : Heap) (locs1 : List Loc), va_P (gD Z) vwCl (bw Z V') H1 → va_S (inW Z) H0 H1 locs1 → W p l e R s m args below meth c H1 locs1 cells slots Q (F0 m (pc + 3) ls rest)) : W p l e R s m args below meth c H locs cells slots Q (F0 m pc ls (.int 8 :: .int 0 :: .ref (ad Z (cWf w' k)) :: .int 0 :: .ref (ad Z (cWf w k)) :: rest)) :=
  y_arr (f := 45) (k := k) (n := 8) rfl (by decide) (fun V1 S1 w1 h1 h2 => at_wf h2 h1 hk) (by rw [if_neg (by omega), if_neg (by omega)]; exact hk) E hml hls hP hA hS hV hw hVd hw' hl hV' hframes hlocals hdg kk
end COPY
theorem KC_cpA {S' S T : St} {f k n : Nat} (hf : f ≠ 2 ∧ f ≠ 4 ∧ f ≠ 6) (h : KC S' S) : KC (cpA S' T f k n) S := ⟨(if_neg fun q => hf.1 q.1.symm).trans h.1, (if_neg fun q => hf.2.1 q.1.symm).trans h.2.1, (if_neg fun q => hf.2.2 q.1.symm).trans h.2.2⟩
theorem KC_lay {S' S : St} {k : Nat} {a b z : Int32} (h : KC S' S) : KC (layF S' k a b z) S := KC_up (by decide) (KC_up (by decide) (KC_up (by decide) (KC_up (by decide) h)))
theorem KC_addB {S' S : St} {k : Nat} {b : Int32} (h : KC S' S) : KC (addBlockF S' k b) S := by
  unfold addBlockF
  split
  · exact h
  · split
    · exact h
    · exact KC_up (by decide) (KC_up (by decide) h)
theorem KC_addS {S' S : St} {k : Nat} {a b : Int32} (h : KC S' S) : KC (addStopF S' k a b) S := by
  unfold addStopF
  split
  · exact h
  · split
    · exact h
    · exact KC_up (by decide) (KC_up (by decide) (KC_up (by decide) h))
theorem KC_bk {S' S T : St} {k : Nat} (h : KC S' S) : KC (bkCopyF S' T k) S := KC_up (by decide) (KC_up (by decide) (KC_up (by decide) (KC_up (by decide) h)))
theorem KC_trc {S' S T : St} {k : Nat} (h : KC S' S) : KC (trCopyF S' T k) S := by
  unfold trCopyF
  repeat first | exact h | refine KC_cpA (by decide) ?_ | refine KC_up (by decide) ?_
theorem KC_rtc {S' S T : St} {k : Nat} (h : KC S' S) : KC (rtCopyF S' T k) S := KC_tr (KC_iter (fun _ S => KC_addB (KC_refl S)) _ _) (KC_lay h)
def rtI (U S : St) (k n : Nat) : St := iterF (fun i T => addBlockF T k (blockAtF S k (nI i))) n (layF U k (S 20 k 0) (S 21 k 0) (S 22 k 0))
def cpyA (U S : St) : St := up (cpA U S 0 0 6) 2 0 0 (S 2 0 0)
def cpyB (U S : St) (n : Nat) : St := iterF (fun i T => bkCopyF T S i) n (cpyA U S)
def cpyC (U S : St) : St := up (cpyB U S (nB S)) 4 0 0 (S 4 0 0)
def cpyD (U S : St) (n : Nat) : St := iterF (fun i T => rtCopyF T S i) n (cpyC U S)
def cpyE (U S : St) : St := up (cpyD U S (nR S)) 6 0 0 (S 6 0 0)
def cpyF (U S : St) (n : Nat) : St := iterF (fun i T => trCopyF T S i) n (cpyE U S)
def takeF (U S : St) : St := up (up (up (cpyF U S (nT S)) 7 0 0 (S 7 0 0)) 8 0 0 (S 8 0 0)) 9 0 0 (S 9 0 0)
theorem cpyB_2 (U S : St) (n : Nat) : cpyB U S n 2 0 0 = S 2 0 0 := ((KC_iter (fun _ S => KC_bk (KC_refl S)) n (cpyA U S)).1).trans up_s
theorem cpyD_4 (U S : St) (n : Nat) : cpyD U S n 4 0 0 = S 4 0 0 := ((KC_iter (fun _ S => KC_rtc (KC_refl S)) n (cpyC U S)).2.1).trans up_s
theorem cpyF_6 (U S : St) (n : Nat) : cpyF U S n 6 0 0 = S 6 0 0 := ((KC_iter (fun _ S => KC_trc (KC_refl S)) n (cpyE U S)).2.2).trans up_s
abbrev rm_X0_takeFrom : Room := { frames := 0, cells := 0, slots := 0, locals := 0 }
theorem k_X0_takeFrom : Card yX0_takeFrom cX0_takeFrom 2 none 1 := ⟨gw_347, gw_28, by decide +kernel, by decide +kernel⟩
set_option maxHeartbeats 4000000 in
set_option maxRecDepth 20000 in
theorem c_X0_takeFrom (l : Launch) {Z : Gm} (hA : AA Z) {V : Nat → St} {V' : Nat → St} {U S0 : St} (hV0 : V 0 = S0) (hV1 : V 1 = U) {k : Nat} (hk : k < 16) (hV' : upL V 1 (bkCopyF U S0 k) = V') : Met l yX0_takeFrom (.code yX0_takeFrom cX0_takeFrom 2 none :: gG) rm_X0_takeFrom (PW Z V [.ref (ad Z (cBk 1 k)), .ref (ad Z (cBk 0 k))]) (QX Z none V') 0 0 (inW Z) := by
  refine met_of (by decide +kernel) (Nat.le_of_ble_eq_true rfl) ?_
  intro p e s m args below meth c ls E hr hlk hml hP hl
  have E : EE Z p s m args c cX0_takeFrom RX0 := E
  have hl : lv_has ls 2 [(0, .ref (ad Z (cBk 1 k))), (1, .ref (ad Z (cBk 0 k)))] := hl
  have hS : va_S (inW Z) s.heap s.heap [] := va_S.rf
  refine lv_aload_n E.1 E.2.1 dX0_takeFrom_0 rfl (lv_at hl 0 rfl) ?_
  refine lv_aload_n E.1 E.2.1 dX0_takeFrom_1 rfl (lv_at hl 1 rfl) ?_
  refine g_bk (v := .int (S0 10 k 0)) E hP hV0 (show 0 < 2 by decide) (by omega) 0 (by decide) gw_348 rfl dX0_takeFrom_2 ?_
  refine p_bk E hP hA hS hV1 (show 1 < 2 by decide) (by omega) 0 (by decide) gw_348 (V' := upL V 1 (up U 10 k 0 (S0 10 k 0))) rfl dX0_takeFrom_5 (fun H locs hP hS => ?_)
  refine lv_aload_n E.1 E.2.1 dX0_takeFrom_8 rfl (lv_at hl 0 rfl) ?_
  refine lv_aload_n E.1 E.2.1 dX0_takeFrom_9 rfl (lv_at hl 1 rfl) ?_
  refine g_bk (v := .int (S0 11 k 0)) E hP ((upL_ne (by decide)).trans hV0) (show 0 < 2 by decide) (by omega) 1 (by decide) gw_36 rfl dX0_takeFrom_10 ?_
  refine p_bk E hP hA hS (upL_same V 1 (up U 10 k 0 (S0 10 k 0))) (show 1 < 2 by decide) (by omega) 1 (by decide) gw_36 (V' := upL V 1 (up (up U 10 k 0 (S0 10 k 0)) 11 k 0 (S0 11 k 0))) (upL_upL V 1 _ _) dX0_takeFrom_13 (fun H locs hP hS => ?_)
  refine lv_aload_n E.1 E.2.1 dX0_takeFrom_16 rfl (lv_at hl 0 rfl) ?_
  refine lv_aload_n E.1 E.2.1 dX0_takeFrom_17 rfl (lv_at hl 1 rfl) ?_
  refine g_bk (v := .int (S0 12 k 0)) E hP ((upL_ne (by decide)).trans hV0) (show 0 < 2 by decide) (by omega) 2 (by decide) gw_37 rfl dX0_takeFrom_18 ?_
  refine p_bk E hP hA hS (upL_same V 1 (up (up U 10 k 0 (S0 10 k 0)) 11 k 0 (S0 11 k 0))) (show 1 < 2 by decide) (by omega) 2 (by decide) gw_37 (V' := upL V 1 (up (up (up U 10 k 0 (S0 10 k 0)) 11 k 0 (S0 11 k 0)) 12 k 0 (S0 12 k 0))) (upL_upL V 1 _ _) dX0_takeFrom_21 (fun H locs hP hS => ?_)
  refine lv_aload_n E.1 E.2.1 dX0_takeFrom_24 rfl (lv_at hl 0 rfl) ?_
  refine lv_aload_n E.1 E.2.1 dX0_takeFrom_25 rfl (lv_at hl 1 rfl) ?_
  refine g_bk (v := .int (S0 13 k 0)) E hP ((upL_ne (by decide)).trans hV0) (show 0 < 2 by decide) (by omega) 3 (by decide) gw_349 rfl dX0_takeFrom_26 ?_
  refine p_bk E hP hA hS (upL_same V 1 (up (up (up U 10 k 0 (S0 10 k 0)) 11 k 0 (S0 11 k 0)) 12 k 0 (S0 12 k 0))) (show 1 < 2 by decide) (by omega) 3 (by decide) gw_349 (V' := upL V 1 (up (up (up (up U 10 k 0 (S0 10 k 0)) 11 k 0 (S0 11 k 0)) 12 k 0 (S0 12 k 0)) 13 k 0 (S0 13 k 0))) (upL_upL V 1 _ _) dX0_takeFrom_29 (fun H locs hP hS => ?_)
  exact e_vX E hr hlk hP hS (fin1 hV' (by rfl)) dX0_takeFrom_32

abbrev rm_X3_takeFrom : Room := { frames := 1, cells := 0, slots := 0, locals := 40 }
theorem k_X3_takeFrom : Card yX3_takeFrom cX3_takeFrom 2 none 1 := ⟨gw_359, gw_32, by decide +kernel, by decide +kernel⟩
set_option maxHeartbeats 4000000 in
set_option maxRecDepth 20000 in
theorem c_X3_takeFrom (l : Launch) {Z : Gm} (hA : AA Z) {V : Nat → St} {V' : Nat → St} {U S0 : St} (hV0 : V 0 = S0) (hV1 : V 1 = U) {k : Nat} (hk : k < 8) (hV' : upL V 1 (trCopyF U S0 k) = V') : Met l yX3_takeFrom (.code yX3_takeFrom cX3_takeFrom 2 none :: gG) rm_X3_takeFrom (PW Z V [.ref (ad Z (cTr 1 k)), .ref (ad Z (cTr 0 k))]) (QX Z none V') 0 0 (inW Z) := by
  refine met_of (by decide +kernel) (Nat.le_of_ble_eq_true rfl) ?_
  intro p e s m args below meth c ls E hr hlk hml hP hl
  have E : EE Z p s m args c cX3_takeFrom RX3 := E
  have hl : lv_has ls 2 [(0, .ref (ad Z (cTr 1 k))), (1, .ref (ad Z (cTr 0 k)))] := hl
  have hS : va_S (inW Z) s.heap s.heap [] := va_S.rf
  refine lv_aload_n E.1 E.2.1 dX3_takeFrom_0 rfl (lv_at hl 0 rfl) ?_
  refine lv_aload_n E.1 E.2.1 dX3_takeFrom_1 rfl (lv_at hl 1 rfl) ?_
  refine g_tr (v := .int (S0 30 k 0)) E hP hV0 (show 0 < 2 by decide) (by omega) 0 (by decide) gw_360 rfl dX3_takeFrom_2 ?_
  refine p_tr E hP hA hS hV1 (show 1 < 2 by decide) (by omega) 0 (by decide) gw_360 (V' := upL V 1 (up U 30 k 0 (S0 30 k 0))) rfl dX3_takeFrom_5 (fun H locs hP hS => ?_)
  refine lv_aload_n E.1 E.2.1 dX3_takeFrom_8 rfl (lv_at hl 0 rfl) ?_
  refine lv_aload_n E.1 E.2.1 dX3_takeFrom_9 rfl (lv_at hl 1 rfl) ?_
  refine g_tr (v := .int (S0 31 k 0)) E hP ((upL_ne (by decide)).trans hV0) (show 0 < 2 by decide) (by omega) 1 (by decide) gw_361 rfl dX3_takeFrom_10 ?_
  refine p_tr E hP hA hS (upL_same V 1 (up U 30 k 0 (S0 30 k 0))) (show 1 < 2 by decide) (by omega) 1 (by decide) gw_361 (V' := upL V 1 (up (up U 30 k 0 (S0 30 k 0)) 31 k 0 (S0 31 k 0))) (upL_upL V 1 _ _) dX3_takeFrom_13 (fun H locs hP hS => ?_)
  refine lv_aload_n E.1 E.2.1 dX3_takeFrom_16 rfl (lv_at hl 0 rfl) ?_
  refine lv_aload_n E.1 E.2.1 dX3_takeFrom_17 rfl (lv_at hl 1 rfl) ?_
  refine g_tr (v := .int (S0 32 k 0)) E hP ((upL_ne (by decide)).trans hV0) (show 0 < 2 by decide) (by omega) 2 (by decide) gw_187 rfl dX3_takeFrom_18 ?_
  refine p_tr E hP hA hS (upL_same V 1 (up (up U 30 k 0 (S0 30 k 0)) 31 k 0 (S0 31 k 0))) (show 1 < 2 by decide) (by omega) 2 (by decide) gw_187 (V' := upL V 1 (up (up (up U 30 k 0 (S0 30 k 0)) 31 k 0 (S0 31 k 0)) 32 k 0 (S0 32 k 0))) (upL_upL V 1 _ _) dX3_takeFrom_21 (fun H locs hP hS => ?_)
  refine lv_aload_n E.1 E.2.1 dX3_takeFrom_24 rfl (lv_at hl 1 rfl) ?_
  refine g_tr E hP ((upL_ne (by decide)).trans hV0) (show 0 < 2 by decide) (by omega) 3 (by decide) gw_45 rfl dX3_takeFrom_25 ?_
  refine lv_iconst (v := 0) E.1 E.2.1 dX3_takeFrom_28 (by decide) ?_
  refine lv_aload_n E.1 E.2.1 dX3_takeFrom_29 rfl (lv_at hl 0 rfl) ?_
  refine g_tr E hP (upL_same V 1 (up (up (up U 30 k 0 (S0 30 k 0)) 31 k 0 (S0 31 k 0)) 32 k 0 (S0 32 k 0))) (show 1 < 2 by decide) (by omega) 3 (by decide) gw_45 rfl dX3_takeFrom_30 ?_
  refine lv_iconst (v := 0) E.1 E.2.1 dX3_takeFrom_33 (by decide) ?_
  refine lv_bipush (v := 8) E.1 E.2.1 dX3_takeFrom_34 (by decide) ?_
  refine y_st E hml hl.1 hP hA hS ((upL_ne (by decide)).trans hV0) (show 0 < 2 by decide) (upL_same V 1 (up (up (up U 30 k 0 (S0 30 k 0)) 31 k 0 (S0 31 k 0)) 32 k 0 (S0 32 k 0))) (show 1 < 2 by decide) (by omega) gw_362 (V' := upL V 1 (cpA (up (up (up U 30 k 0 (S0 30 k 0)) 31 k 0 (S0 31 k 0)) 32 k 0 (S0 32 k 0)) S0 33 k 8)) (upL_upL V 1 _ _) (Nat.le_of_ble_eq_true rfl) (Nat.le_of_ble_eq_true rfl) dX3_takeFrom_36 (fun H locs hP hS => ?_)
  refine lv_aload_n E.1 E.2.1 dX3_takeFrom_39 rfl (lv_at hl 1 rfl) ?_
  refine g_tr E hP ((upL_ne (by decide)).trans hV0) (show 0 < 2 by decide) (by omega) 4 (by decide) gw_46 rfl dX3_takeFrom_40 ?_
  refine lv_iconst (v := 0) E.1 E.2.1 dX3_takeFrom_43 (by decide) ?_
  refine lv_aload_n E.1 E.2.1 dX3_takeFrom_44 rfl (lv_at hl 0 rfl) ?_
  refine g_tr E hP (upL_same V 1 (cpA (up (up (up U 30 k 0 (S0 30 k 0)) 31 k 0 (S0 31 k 0)) 32 k 0 (S0 32 k 0)) S0 33 k 8)) (show 1 < 2 by decide) (by omega) 4 (by decide) gw_46 rfl dX3_takeFrom_45 ?_
  refine lv_iconst (v := 0) E.1 E.2.1 dX3_takeFrom_48 (by decide) ?_
  refine lv_bipush (v := 8) E.1 E.2.1 dX3_takeFrom_49 (by decide) ?_
  refine y_tm E hml hl.1 hP hA hS ((upL_ne (by decide)).trans hV0) (show 0 < 2 by decide) (upL_same V 1 (cpA (up (up (up U 30 k 0 (S0 30 k 0)) 31 k 0 (S0 31 k 0)) 32 k 0 (S0 32 k 0)) S0 33 k 8)) (show 1 < 2 by decide) (by omega) gw_362 (V' := upL V 1 (cpA (cpA (up (up (up U 30 k 0 (S0 30 k 0)) 31 k 0 (S0 31 k 0)) 32 k 0 (S0 32 k 0)) S0 33 k 8) S0 34 k 8)) (upL_upL V 1 _ _) (Nat.le_of_ble_eq_true rfl) (Nat.le_of_ble_eq_true rfl) dX3_takeFrom_51 (fun H locs hP hS => ?_)
  refine lv_aload_n E.1 E.2.1 dX3_takeFrom_54 rfl (lv_at hl 0 rfl) ?_
  refine lv_aload_n E.1 E.2.1 dX3_takeFrom_55 rfl (lv_at hl 1 rfl) ?_
  refine g_tr (v := .int (S0 35 k 0)) E hP ((upL_ne (by decide)).trans hV0) (show 0 < 2 by decide) (by omega) 5 (by decide) gw_309 rfl dX3_takeFrom_56 ?_
  refine p_tr E hP hA hS (upL_same V 1 (cpA (cpA (up (up (up U 30 k 0 (S0 30 k 0)) 31 k 0 (S0 31 k 0)) 32 k 0 (S0 32 k 0)) S0 33 k 8) S0 34 k 8)) (show 1 < 2 by decide) (by omega) 5 (by decide) gw_309 (V' := upL V 1 (up (cpA (cpA (up (up (up U 30 k 0 (S0 30 k 0)) 31 k 0 (S0 31 k 0)) 32 k 0 (S0 32 k 0)) S0 33 k 8) S0 34 k 8) 35 k 0 (S0 35 k 0))) (upL_upL V 1 _ _) dX3_takeFrom_59 (fun H locs hP hS => ?_)
  refine lv_aload_n E.1 E.2.1 dX3_takeFrom_62 rfl (lv_at hl 0 rfl) ?_
  refine lv_aload_n E.1 E.2.1 dX3_takeFrom_63 rfl (lv_at hl 1 rfl) ?_
  refine g_tr (v := .int (S0 36 k 0)) E hP ((upL_ne (by decide)).trans hV0) (show 0 < 2 by decide) (by omega) 6 (by decide) gw_47 rfl dX3_takeFrom_64 ?_
  refine p_tr E hP hA hS (upL_same V 1 (up (cpA (cpA (up (up (up U 30 k 0 (S0 30 k 0)) 31 k 0 (S0 31 k 0)) 32 k 0 (S0 32 k 0)) S0 33 k 8) S0 34 k 8) 35 k 0 (S0 35 k 0))) (show 1 < 2 by decide) (by omega) 6 (by decide) gw_47 (V' := upL V 1 (up (up (cpA (cpA (up (up (up U 30 k 0 (S0 30 k 0)) 31 k 0 (S0 31 k 0)) 32 k 0 (S0 32 k 0)) S0 33 k 8) S0 34 k 8) 35 k 0 (S0 35 k 0)) 36 k 0 (S0 36 k 0))) (upL_upL V 1 _ _) dX3_takeFrom_67 (fun H locs hP hS => ?_)
  refine lv_aload_n E.1 E.2.1 dX3_takeFrom_70 rfl (lv_at hl 0 rfl) ?_
  refine lv_aload_n E.1 E.2.1 dX3_takeFrom_71 rfl (lv_at hl 1 rfl) ?_
  refine g_tr (v := .int (S0 37 k 0)) E hP ((upL_ne (by decide)).trans hV0) (show 0 < 2 by decide) (by omega) 7 (by decide) gw_363 rfl dX3_takeFrom_72 ?_
  refine p_tr E hP hA hS (upL_same V 1 (up (up (cpA (cpA (up (up (up U 30 k 0 (S0 30 k 0)) 31 k 0 (S0 31 k 0)) 32 k 0 (S0 32 k 0)) S0 33 k 8) S0 34 k 8) 35 k 0 (S0 35 k 0)) 36 k 0 (S0 36 k 0))) (show 1 < 2 by decide) (by omega) 7 (by decide) gw_363 (V' := upL V 1 (up (up (up (cpA (cpA (up (up (up U 30 k 0 (S0 30 k 0)) 31 k 0 (S0 31 k 0)) 32 k 0 (S0 32 k 0)) S0 33 k 8) S0 34 k 8) 35 k 0 (S0 35 k 0)) 36 k 0 (S0 36 k 0)) 37 k 0 (S0 37 k 0))) (upL_upL V 1 _ _) dX3_takeFrom_75 (fun H locs hP hS => ?_)
  refine lv_aload_n E.1 E.2.1 dX3_takeFrom_78 rfl (lv_at hl 0 rfl) ?_
  refine lv_aload_n E.1 E.2.1 dX3_takeFrom_79 rfl (lv_at hl 1 rfl) ?_
  refine g_tr (v := .int (S0 38 k 0)) E hP ((upL_ne (by decide)).trans hV0) (show 0 < 2 by decide) (by omega) 8 (by decide) gw_48 rfl dX3_takeFrom_80 ?_
  refine p_tr E hP hA hS (upL_same V 1 (up (up (up (cpA (cpA (up (up (up U 30 k 0 (S0 30 k 0)) 31 k 0 (S0 31 k 0)) 32 k 0 (S0 32 k 0)) S0 33 k 8) S0 34 k 8) 35 k 0 (S0 35 k 0)) 36 k 0 (S0 36 k 0)) 37 k 0 (S0 37 k 0))) (show 1 < 2 by decide) (by omega) 8 (by decide) gw_48 (V' := upL V 1 (up (up (up (up (cpA (cpA (up (up (up U 30 k 0 (S0 30 k 0)) 31 k 0 (S0 31 k 0)) 32 k 0 (S0 32 k 0)) S0 33 k 8) S0 34 k 8) 35 k 0 (S0 35 k 0)) 36 k 0 (S0 36 k 0)) 37 k 0 (S0 37 k 0)) 38 k 0 (S0 38 k 0))) (upL_upL V 1 _ _) dX3_takeFrom_83 (fun H locs hP hS => ?_)
  refine lv_aload_n E.1 E.2.1 dX3_takeFrom_86 rfl (lv_at hl 0 rfl) ?_
  refine lv_aload_n E.1 E.2.1 dX3_takeFrom_87 rfl (lv_at hl 1 rfl) ?_
  refine g_tr (v := .int (S0 39 k 0)) E hP ((upL_ne (by decide)).trans hV0) (show 0 < 2 by decide) (by omega) 9 (by decide) gw_364 rfl dX3_takeFrom_88 ?_
  refine p_tr E hP hA hS (upL_same V 1 (up (up (up (up (cpA (cpA (up (up (up U 30 k 0 (S0 30 k 0)) 31 k 0 (S0 31 k 0)) 32 k 0 (S0 32 k 0)) S0 33 k 8) S0 34 k 8) 35 k 0 (S0 35 k 0)) 36 k 0 (S0 36 k 0)) 37 k 0 (S0 37 k 0)) 38 k 0 (S0 38 k 0))) (show 1 < 2 by decide) (by omega) 9 (by decide) gw_364 (V' := upL V 1 (up (up (up (up (up (cpA (cpA (up (up (up U 30 k 0 (S0 30 k 0)) 31 k 0 (S0 31 k 0)) 32 k 0 (S0 32 k 0)) S0 33 k 8) S0 34 k 8) 35 k 0 (S0 35 k 0)) 36 k 0 (S0 36 k 0)) 37 k 0 (S0 37 k 0)) 38 k 0 (S0 38 k 0)) 39 k 0 (S0 39 k 0))) (upL_upL V 1 _ _) dX3_takeFrom_91 (fun H locs hP hS => ?_)
  refine lv_aload_n E.1 E.2.1 dX3_takeFrom_94 rfl (lv_at hl 0 rfl) ?_
  refine lv_aload_n E.1 E.2.1 dX3_takeFrom_95 rfl (lv_at hl 1 rfl) ?_
  refine g_tr (v := .int (S0 40 k 0)) E hP ((upL_ne (by decide)).trans hV0) (show 0 < 2 by decide) (by omega) 10 (by decide) gw_315 rfl dX3_takeFrom_96 ?_
  refine p_tr E hP hA hS (upL_same V 1 (up (up (up (up (up (cpA (cpA (up (up (up U 30 k 0 (S0 30 k 0)) 31 k 0 (S0 31 k 0)) 32 k 0 (S0 32 k 0)) S0 33 k 8) S0 34 k 8) 35 k 0 (S0 35 k 0)) 36 k 0 (S0 36 k 0)) 37 k 0 (S0 37 k 0)) 38 k 0 (S0 38 k 0)) 39 k 0 (S0 39 k 0))) (show 1 < 2 by decide) (by omega) 10 (by decide) gw_315 (V' := upL V 1 (up (up (up (up (up (up (cpA (cpA (up (up (up U 30 k 0 (S0 30 k 0)) 31 k 0 (S0 31 k 0)) 32 k 0 (S0 32 k 0)) S0 33 k 8) S0 34 k 8) 35 k 0 (S0 35 k 0)) 36 k 0 (S0 36 k 0)) 37 k 0 (S0 37 k 0)) 38 k 0 (S0 38 k 0)) 39 k 0 (S0 39 k 0)) 40 k 0 (S0 40 k 0))) (upL_upL V 1 _ _) dX3_takeFrom_99 (fun H locs hP hS => ?_)
  refine lv_aload_n E.1 E.2.1 dX3_takeFrom_102 rfl (lv_at hl 0 rfl) ?_
  refine lv_aload_n E.1 E.2.1 dX3_takeFrom_103 rfl (lv_at hl 1 rfl) ?_
  refine g_tr (v := .int (S0 41 k 0)) E hP ((upL_ne (by decide)).trans hV0) (show 0 < 2 by decide) (by omega) 11 (by decide) gw_365 rfl dX3_takeFrom_104 ?_
  refine p_tr E hP hA hS (upL_same V 1 (up (up (up (up (up (up (cpA (cpA (up (up (up U 30 k 0 (S0 30 k 0)) 31 k 0 (S0 31 k 0)) 32 k 0 (S0 32 k 0)) S0 33 k 8) S0 34 k 8) 35 k 0 (S0 35 k 0)) 36 k 0 (S0 36 k 0)) 37 k 0 (S0 37 k 0)) 38 k 0 (S0 38 k 0)) 39 k 0 (S0 39 k 0)) 40 k 0 (S0 40 k 0))) (show 1 < 2 by decide) (by omega) 11 (by decide) gw_365 (V' := upL V 1 (up (up (up (up (up (up (up (cpA (cpA (up (up (up U 30 k 0 (S0 30 k 0)) 31 k 0 (S0 31 k 0)) 32 k 0 (S0 32 k 0)) S0 33 k 8) S0 34 k 8) 35 k 0 (S0 35 k 0)) 36 k 0 (S0 36 k 0)) 37 k 0 (S0 37 k 0)) 38 k 0 (S0 38 k 0)) 39 k 0 (S0 39 k 0)) 40 k 0 (S0 40 k 0)) 41 k 0 (S0 41 k 0))) (upL_upL V 1 _ _) dX3_takeFrom_107 (fun H locs hP hS => ?_)
  refine lv_aload_n E.1 E.2.1 dX3_takeFrom_110 rfl (lv_at hl 0 rfl) ?_
  refine lv_aload_n E.1 E.2.1 dX3_takeFrom_111 rfl (lv_at hl 1 rfl) ?_
  refine g_tr (v := .int (S0 42 k 0)) E hP ((upL_ne (by decide)).trans hV0) (show 0 < 2 by decide) (by omega) 12 (by decide) gw_366 rfl dX3_takeFrom_112 ?_
  refine p_tr E hP hA hS (upL_same V 1 (up (up (up (up (up (up (up (cpA (cpA (up (up (up U 30 k 0 (S0 30 k 0)) 31 k 0 (S0 31 k 0)) 32 k 0 (S0 32 k 0)) S0 33 k 8) S0 34 k 8) 35 k 0 (S0 35 k 0)) 36 k 0 (S0 36 k 0)) 37 k 0 (S0 37 k 0)) 38 k 0 (S0 38 k 0)) 39 k 0 (S0 39 k 0)) 40 k 0 (S0 40 k 0)) 41 k 0 (S0 41 k 0))) (show 1 < 2 by decide) (by omega) 12 (by decide) gw_366 (V' := upL V 1 (up (up (up (up (up (up (up (up (cpA (cpA (up (up (up U 30 k 0 (S0 30 k 0)) 31 k 0 (S0 31 k 0)) 32 k 0 (S0 32 k 0)) S0 33 k 8) S0 34 k 8) 35 k 0 (S0 35 k 0)) 36 k 0 (S0 36 k 0)) 37 k 0 (S0 37 k 0)) 38 k 0 (S0 38 k 0)) 39 k 0 (S0 39 k 0)) 40 k 0 (S0 40 k 0)) 41 k 0 (S0 41 k 0)) 42 k 0 (S0 42 k 0))) (upL_upL V 1 _ _) dX3_takeFrom_115 (fun H locs hP hS => ?_)
  refine lv_aload_n E.1 E.2.1 dX3_takeFrom_118 rfl (lv_at hl 0 rfl) ?_
  refine lv_aload_n E.1 E.2.1 dX3_takeFrom_119 rfl (lv_at hl 1 rfl) ?_
  refine g_tr (v := .int (S0 43 k 0)) E hP ((upL_ne (by decide)).trans hV0) (show 0 < 2 by decide) (by omega) 13 (by decide) gw_367 rfl dX3_takeFrom_120 ?_
  refine p_tr E hP hA hS (upL_same V 1 (up (up (up (up (up (up (up (up (cpA (cpA (up (up (up U 30 k 0 (S0 30 k 0)) 31 k 0 (S0 31 k 0)) 32 k 0 (S0 32 k 0)) S0 33 k 8) S0 34 k 8) 35 k 0 (S0 35 k 0)) 36 k 0 (S0 36 k 0)) 37 k 0 (S0 37 k 0)) 38 k 0 (S0 38 k 0)) 39 k 0 (S0 39 k 0)) 40 k 0 (S0 40 k 0)) 41 k 0 (S0 41 k 0)) 42 k 0 (S0 42 k 0))) (show 1 < 2 by decide) (by omega) 13 (by decide) gw_367 (V' := upL V 1 (up (up (up (up (up (up (up (up (up (cpA (cpA (up (up (up U 30 k 0 (S0 30 k 0)) 31 k 0 (S0 31 k 0)) 32 k 0 (S0 32 k 0)) S0 33 k 8) S0 34 k 8) 35 k 0 (S0 35 k 0)) 36 k 0 (S0 36 k 0)) 37 k 0 (S0 37 k 0)) 38 k 0 (S0 38 k 0)) 39 k 0 (S0 39 k 0)) 40 k 0 (S0 40 k 0)) 41 k 0 (S0 41 k 0)) 42 k 0 (S0 42 k 0)) 43 k 0 (S0 43 k 0))) (upL_upL V 1 _ _) dX3_takeFrom_123 (fun H locs hP hS => ?_)
  refine lv_aload_n E.1 E.2.1 dX3_takeFrom_126 rfl (lv_at hl 0 rfl) ?_
  refine lv_aload_n E.1 E.2.1 dX3_takeFrom_127 rfl (lv_at hl 1 rfl) ?_
  refine g_tr (v := .int (S0 44 k 0)) E hP ((upL_ne (by decide)).trans hV0) (show 0 < 2 by decide) (by omega) 14 (by decide) gw_49 rfl dX3_takeFrom_128 ?_
  refine p_tr E hP hA hS (upL_same V 1 (up (up (up (up (up (up (up (up (up (cpA (cpA (up (up (up U 30 k 0 (S0 30 k 0)) 31 k 0 (S0 31 k 0)) 32 k 0 (S0 32 k 0)) S0 33 k 8) S0 34 k 8) 35 k 0 (S0 35 k 0)) 36 k 0 (S0 36 k 0)) 37 k 0 (S0 37 k 0)) 38 k 0 (S0 38 k 0)) 39 k 0 (S0 39 k 0)) 40 k 0 (S0 40 k 0)) 41 k 0 (S0 41 k 0)) 42 k 0 (S0 42 k 0)) 43 k 0 (S0 43 k 0))) (show 1 < 2 by decide) (by omega) 14 (by decide) gw_49 (V' := upL V 1 (up (up (up (up (up (up (up (up (up (up (cpA (cpA (up (up (up U 30 k 0 (S0 30 k 0)) 31 k 0 (S0 31 k 0)) 32 k 0 (S0 32 k 0)) S0 33 k 8) S0 34 k 8) 35 k 0 (S0 35 k 0)) 36 k 0 (S0 36 k 0)) 37 k 0 (S0 37 k 0)) 38 k 0 (S0 38 k 0)) 39 k 0 (S0 39 k 0)) 40 k 0 (S0 40 k 0)) 41 k 0 (S0 41 k 0)) 42 k 0 (S0 42 k 0)) 43 k 0 (S0 43 k 0)) 44 k 0 (S0 44 k 0))) (upL_upL V 1 _ _) dX3_takeFrom_131 (fun H locs hP hS => ?_)
  refine lv_aload_n E.1 E.2.1 dX3_takeFrom_134 rfl (lv_at hl 1 rfl) ?_
  refine g_tr E hP ((upL_ne (by decide)).trans hV0) (show 0 < 2 by decide) (by omega) 15 (by decide) gw_50 rfl dX3_takeFrom_135 ?_
  refine lv_iconst (v := 0) E.1 E.2.1 dX3_takeFrom_138 (by decide) ?_
  refine lv_aload_n E.1 E.2.1 dX3_takeFrom_139 rfl (lv_at hl 0 rfl) ?_
  refine g_tr E hP (upL_same V 1 (up (up (up (up (up (up (up (up (up (up (cpA (cpA (up (up (up U 30 k 0 (S0 30 k 0)) 31 k 0 (S0 31 k 0)) 32 k 0 (S0 32 k 0)) S0 33 k 8) S0 34 k 8) 35 k 0 (S0 35 k 0)) 36 k 0 (S0 36 k 0)) 37 k 0 (S0 37 k 0)) 38 k 0 (S0 38 k 0)) 39 k 0 (S0 39 k 0)) 40 k 0 (S0 40 k 0)) 41 k 0 (S0 41 k 0)) 42 k 0 (S0 42 k 0)) 43 k 0 (S0 43 k 0)) 44 k 0 (S0 44 k 0))) (show 1 < 2 by decide) (by omega) 15 (by decide) gw_50 rfl dX3_takeFrom_140 ?_
  refine lv_iconst (v := 0) E.1 E.2.1 dX3_takeFrom_143 (by decide) ?_
  refine lv_bipush (v := 8) E.1 E.2.1 dX3_takeFrom_144 (by decide) ?_
  refine y_wf E hml hl.1 hP hA hS ((upL_ne (by decide)).trans hV0) (show 0 < 2 by decide) (upL_same V 1 (up (up (up (up (up (up (up (up (up (up (cpA (cpA (up (up (up U 30 k 0 (S0 30 k 0)) 31 k 0 (S0 31 k 0)) 32 k 0 (S0 32 k 0)) S0 33 k 8) S0 34 k 8) 35 k 0 (S0 35 k 0)) 36 k 0 (S0 36 k 0)) 37 k 0 (S0 37 k 0)) 38 k 0 (S0 38 k 0)) 39 k 0 (S0 39 k 0)) 40 k 0 (S0 40 k 0)) 41 k 0 (S0 41 k 0)) 42 k 0 (S0 42 k 0)) 43 k 0 (S0 43 k 0)) 44 k 0 (S0 44 k 0))) (show 1 < 2 by decide) (by omega) gw_362 (V' := upL V 1 (cpA (up (up (up (up (up (up (up (up (up (up (cpA (cpA (up (up (up U 30 k 0 (S0 30 k 0)) 31 k 0 (S0 31 k 0)) 32 k 0 (S0 32 k 0)) S0 33 k 8) S0 34 k 8) 35 k 0 (S0 35 k 0)) 36 k 0 (S0 36 k 0)) 37 k 0 (S0 37 k 0)) 38 k 0 (S0 38 k 0)) 39 k 0 (S0 39 k 0)) 40 k 0 (S0 40 k 0)) 41 k 0 (S0 41 k 0)) 42 k 0 (S0 42 k 0)) 43 k 0 (S0 43 k 0)) 44 k 0 (S0 44 k 0)) S0 45 k 8)) (upL_upL V 1 _ _) (Nat.le_of_ble_eq_true rfl) (Nat.le_of_ble_eq_true rfl) dX3_takeFrom_146 (fun H locs hP hS => ?_)
  exact e_vX E hr hlk hP hS (fin1 hV' (by rfl)) dX3_takeFrom_149

abbrev rm_X2_takeFrom : Room := { frames := 1, cells := 0, slots := 0, locals := 23 }
theorem k_X2_takeFrom : Card yX2_takeFrom cX2_takeFrom 3 none 1 := ⟨gw_353, gw_30, by decide +kernel, by decide +kernel⟩
set_option maxHeartbeats 4000000 in
set_option maxRecDepth 20000 in
theorem c_X2_takeFrom (l : Launch) {Z : Gm} (hA : AA Z) {V : Nat → St} {V' : Nat → St} {U S0 : St} (hV0 : V 0 = S0) (hV1 : V 1 = U) {k : Nat} (hk : k < 16) (hz : S0 22 k 0 = 0 ∨ S0 22 k 0 = 1) (hV' : upL V 1 (rtCopyF U S0 k) = V') : Met l yX2_takeFrom (.code yX2_takeFrom cX2_takeFrom 3 none :: gG) rm_X2_takeFrom (PW Z V [.ref (ad Z (cRt 1 k)), .ref (ad Z (cRt 0 k))]) (QX Z none V') 0 0 (inW Z) := by
  refine met_of (by decide +kernel) (Nat.le_of_ble_eq_true rfl) ?_
  intro p e s m args below meth c ls E hr hlk hml hP hl
  have E : EE Z p s m args c cX2_takeFrom RX2 := E
  have hl : lv_has ls 3 [(0, .ref (ad Z (cRt 1 k))), (1, .ref (ad Z (cRt 0 k)))] := hl
  have hS : va_S (inW Z) s.heap s.heap [] := va_S.rf
  have h31 := clamp_lt31 (S0 23 k 0)
  refine lv_aload_n E.1 E.2.1 dX2_takeFrom_0 rfl (lv_at hl 0 rfl) ?_
  refine lv_aload_n E.1 E.2.1 dX2_takeFrom_1 rfl (lv_at hl 1 rfl) ?_
  refine g_rt (v := .int (S0 20 k 0)) E hP hV0 (show 0 < 2 by decide) (by omega) 0 (by decide) gw_96 rfl dX2_takeFrom_2 ?_
  refine lv_aload_n E.1 E.2.1 dX2_takeFrom_5 rfl (lv_at hl 1 rfl) ?_
  refine g_rt (v := .int (S0 21 k 0)) E hP hV0 (show 0 < 2 by decide) (by omega) 1 (by decide) gw_97 rfl dX2_takeFrom_6 ?_
  refine lv_aload_n E.1 E.2.1 dX2_takeFrom_9 rfl (lv_at hl 1 rfl) ?_
  refine g_rt (v := .int (S0 22 k 0)) E hP hV0 (show 0 < 2 by decide) (by omega) 2 (by decide) gw_98 rfl dX2_takeFrom_10 ?_
  refine go_Xv (run_V (rest := []) E hml hl.1 (c_X2_lay l hA (V' := upL V 1 (layF U k (S0 20 k 0) (S0 21 k 0) (S0 22 k 0))) hV1 (show 1 < 2 by decide) (by omega) (S0 20 k 0) (S0 21 k 0) (S0 22 k 0) hz rfl) k_X2_lay ⟨rfl, rfl, Nat.le_of_ble_eq_true rfl, Nat.le_of_ble_eq_true rfl⟩ gw_354 gw_93 gw_94 hP (rv_rt E hP (show 1 < 2 by decide) (by omega)) rfl rfl (Nat.le_of_ble_eq_true rfl) ⟨Nat.zero_le _, Nat.zero_le _⟩ dX2_takeFrom_13) hS (fun H locs hP hS => ?_)
  refine lv_iconst (v := 0) E.1 E.2.1 dX2_takeFrom_16 (by decide) ?_
  refine lv_istore_n (lv' := [(2, .int 0), (0, .ref (ad Z (cRt 1 k))), (1, .ref (ad Z (cRt 0 k)))]) E.1 E.2.1 dX2_takeFrom_17 rfl hl (by decide) rfl (fun ls hl => ?_)
  have loop_18 : ∀ (n_18 : Nat) (i : Nat) (U1 : St), (S0 23 k 0).toNatClampNeg - i < n_18 → (U1 = rtI U S0 k i) → (i ≤ (S0 23 k 0).toNatClampNeg) → ∀ (H : Heap) (locs : List Loc), va_P (gD Z) vwCl (bw Z (upL V 1 U1)) H → va_S (inW Z) s.heap H locs → ∀ (ls : Array Slot), lv_has ls 3 [(2, .int (nI i)), (0, .ref (ad Z (cRt 1 k))), (1, .ref (ad Z (cRt 0 k)))] → W p l e rm_X2_takeFrom s m args below meth c H locs 0 0 (MQ below (QX Z none V') args s 0 0 (inW Z)) (F0 m 18 ls []) := by
    intro n_18
    induction n_18 with
    | zero => intro i U1 hm_18; exact absurd hm_18 (by omega)
    | succ n_18 ih_18 =>
      intro i U1 hm_18 ha hi H locs hP hS ls hl
      refine lv_iload_n E.1 E.2.1 dX2_takeFrom_18 rfl (lv_at hl 0 rfl) ?_
      refine lv_aload_n E.1 E.2.1 dX2_takeFrom_19 rfl (lv_at hl 2 rfl) ?_
      refine g_rt (v := .int (S0 23 k 0)) E hP ((upL_ne (by decide)).trans hV0) (show 0 < 2 by decide) (by omega) 3 (by decide) gw_99 rfl dX2_takeFrom_20 ?_
      refine lv_icmp_ge (tgt := 41) E.1 E.2.1 dX2_takeFrom_23 (by decide) (fun c_23 => ?_) (fun c_23 => ?_)
      · have hd : (S0 23 k 0).toNatClampNeg ≤ i := lq1 (by omega) c_23
        exact e_vX E hr hlk hP hS (fin1 hV' (by rw [ha, show i = (S0 23 k 0).toNatClampNeg from by omega]; rfl)) dX2_takeFrom_41
      · have hd : i < (S0 23 k 0).toNatClampNeg := lq2 (by omega) c_23
        refine lv_aload_n E.1 E.2.1 dX2_takeFrom_26 rfl (lv_at hl 1 rfl) ?_
        refine lv_aload_n E.1 E.2.1 dX2_takeFrom_27 rfl (lv_at hl 2 rfl) ?_
        refine lv_iload_n E.1 E.2.1 dX2_takeFrom_28 rfl (lv_at hl 0 rfl) ?_
        refine go_Pi (run_V (rest := [.ref (ad Z (cRt 1 k))]) E hml hl.1 (c_X2_blockAt l  ((upL_ne (by decide)).trans hV0) (show 0 < 2 by decide) (by omega) (nI i)) k_X2_blockAt ⟨rfl, rfl, Nat.le_of_ble_eq_true rfl, Nat.le_of_ble_eq_true rfl⟩ gw_143 gw_127 gw_128 hP (rv_rt E hP (show 0 < 2 by decide) (by omega)) rfl rfl (Nat.le_of_ble_eq_true rfl) ⟨Nat.zero_le _, Nat.zero_le _⟩ dX2_takeFrom_29) ?_
        refine go_Xv (run_V (rest := []) E hml hl.1 (c_X2_addBlock l hA (V' := upL V 1 (addBlockF U1 k (blockAtF S0 k (nI i)))) (upL_same V 1 U1) (show 1 < 2 by decide) (by omega) (blockAtF S0 k (nI i)) (upL_upL V 1 _ _)) k_X2_addBlock ⟨rfl, rfl, Nat.le_of_ble_eq_true rfl, Nat.le_of_ble_eq_true rfl⟩ gw_355 gw_101 gw_102 hP (rv_rt E hP (show 1 < 2 by decide) (by omega)) rfl rfl (Nat.le_of_ble_eq_true rfl) ⟨Nat.zero_le _, Nat.zero_le _⟩ dX2_takeFrom_32) hS (fun H locs hP hS => ?_)
        refine lv_iinc (v := (nI (i + 1))) (lv' := [(2, .int (nI (i + 1))), (0, .ref (ad Z (cRt 1 k))), (1, .ref (ad Z (cRt 0 k)))]) E.1 E.2.1 dX2_takeFrom_35 hl (k := 0) rfl (nI_1 _) (by decide) rfl (fun ls hl => ?_)
        refine lv_goto (tgt := 18) E.1 E.2.1 dX2_takeFrom_38 (by decide) ?_
        exact ih_18 (i + 1) _ (by omega) (by rw [ha]; rfl) (by omega) H locs hP hS ls (lv_sub hl [0, 1, 2] rfl)
  exact loop_18 ((S0 23 k 0).toNatClampNeg + 1) 0 (layF U k (S0 20 k 0) (S0 21 k 0) (S0 22 k 0)) (by omega) rfl (Nat.zero_le _) _ _ hP hS _ (lv_sub hl [0, 1, 2] rfl)

abbrev rm_X1_takeFrom : Room := { frames := 2, cells := 0, slots := 0, locals := 61 }
theorem k_X1_takeFrom : Card yX1_takeFrom cX1_takeFrom 3 none 1 := ⟨gw_338, gw_12, by decide +kernel, by decide +kernel⟩
set_option maxHeartbeats 4000000 in
set_option maxRecDepth 20000 in
theorem c_X1_takeFrom (l : Launch) {Z : Gm} (hA : AA Z) {V : Nat → St} {V' : Nat → St} {U S0 : St} (hV0 : V 0 = S0) (hV1 : V 1 = U) (hL : Lim S0) (hz : ∀ k, k < nR S0 → S0 22 k 0 = 0 ∨ S0 22 k 0 = 1) (hV' : upL V 1 (takeF U S0) = V') : Met l yX1_takeFrom (.code yX1_takeFrom cX1_takeFrom 3 none :: gG) rm_X1_takeFrom (PW Z V [.ref (ad Z (cLn 1)), .ref (ad Z (cLn 0))]) (QX Z none V') 0 0 (inW Z) := by
  refine met_of (by decide +kernel) (Nat.le_of_ble_eq_true rfl) ?_
  intro p e s m args below meth c ls E hr hlk hml hP hl
  have E : EE Z p s m args c cX1_takeFrom RX1 := E
  have hl : lv_has ls 3 [(0, .ref (ad Z (cLn 1))), (1, .ref (ad Z (cLn 0)))] := hl
  have hS : va_S (inW Z) s.heap s.heap [] := va_S.rf
  have hT := hL.2.2
  have hR := hL.2.1
  have hB := hL.1
  refine lv_aload_n E.1 E.2.1 dX1_takeFrom_0 rfl (lv_at hl 1 rfl) ?_
  refine g_ln E hP hV0 (show 0 < 2 by decide) 0 (by decide) gw_19 rfl dX1_takeFrom_1 ?_
  refine lv_iconst (v := 0) E.1 E.2.1 dX1_takeFrom_4 (by decide) ?_
  refine lv_aload_n E.1 E.2.1 dX1_takeFrom_5 rfl (lv_at hl 0 rfl) ?_
  refine g_ln E hP hV1 (show 1 < 2 by decide) 0 (by decide) gw_19 rfl dX1_takeFrom_6 ?_
  refine lv_iconst (v := 0) E.1 E.2.1 dX1_takeFrom_9 (by decide) ?_
  refine lv_bipush (v := 6) E.1 E.2.1 dX1_takeFrom_10 (by decide) ?_
  refine y_pl E hml hl.1 hP hA hS hV0 (show 0 < 2 by decide) hV1 (show 1 < 2 by decide) gw_339 (V' := upL V 1 (cpA U S0 0 0 6)) rfl (Nat.le_of_ble_eq_true rfl) (Nat.le_of_ble_eq_true rfl) dX1_takeFrom_12 (fun H locs hP hS => ?_)
  refine lv_aload_n E.1 E.2.1 dX1_takeFrom_15 rfl (lv_at hl 0 rfl) ?_
  refine lv_aload_n E.1 E.2.1 dX1_takeFrom_16 rfl (lv_at hl 1 rfl) ?_
  refine g_ln (v := .int (S0 2 0 0)) E hP ((upL_ne (by decide)).trans hV0) (show 0 < 2 by decide) 2 (by decide) gw_124 rfl dX1_takeFrom_17 ?_
  refine p_ln E hP hA hS (upL_same V 1 (cpA U S0 0 0 6)) (show 1 < 2 by decide) 2 (by decide) gw_124 (V' := upL V 1 (up (cpA U S0 0 0 6) 2 0 0 (S0 2 0 0))) (upL_upL V 1 _ _) dX1_takeFrom_20 (fun H locs hP hS => ?_)
  refine lv_iconst (v := 0) E.1 E.2.1 dX1_takeFrom_23 (by decide) ?_
  refine lv_istore_n (lv' := [(2, .int 0), (0, .ref (ad Z (cLn 1))), (1, .ref (ad Z (cLn 0)))]) E.1 E.2.1 dX1_takeFrom_24 rfl hl (by decide) rfl (fun ls hl => ?_)
  have loop_25 : ∀ (n_25 : Nat) (i : Nat) (U1 : St), nB S0 - i < n_25 → (U1 = cpyB U S0 i) → (i ≤ nB S0) → ∀ (H : Heap) (locs : List Loc), va_P (gD Z) vwCl (bw Z (upL V 1 U1)) H → va_S (inW Z) s.heap H locs → ∀ (ls : Array Slot), lv_has ls 3 [(2, .int (nI i)), (0, .ref (ad Z (cLn 1))), (1, .ref (ad Z (cLn 0)))] → W p l e rm_X1_takeFrom s m args below meth c H locs 0 0 (MQ below (QX Z none V') args s 0 0 (inW Z)) (F0 m 25 ls []) := by
    intro n_25
    induction n_25 with
    | zero => intro i U1 hm_25; exact absurd hm_25 (by omega)
    | succ n_25 ih_25 =>
      intro i U1 hm_25 ha hi H locs hP hS ls hl
      have h2 : U1 2 0 0 = S0 2 0 0 := by rw [ha]; exact cpyB_2 U S0 i
      refine lv_iload_n E.1 E.2.1 dX1_takeFrom_25 rfl (lv_at hl 0 rfl) ?_
      refine lv_aload_n E.1 E.2.1 dX1_takeFrom_26 rfl (lv_at hl 1 rfl) ?_
      refine g_ln (v := .int (U1 2 0 0)) E hP (upL_same V 1 U1) (show 1 < 2 by decide) 2 (by decide) gw_124 rfl dX1_takeFrom_27 ?_
      refine lv_icmp_ge (tgt := 54) E.1 E.2.1 dX1_takeFrom_30 (by decide) (fun c_30 => ?_) (fun c_30 => ?_)
      · rw [h2] at c_30
        have hd : nB S0 ≤ i := lq1 (by omega) c_30
        refine lv_aload_n E.1 E.2.1 dX1_takeFrom_54 rfl (lv_at hl 1 rfl) ?_
        refine lv_aload_n E.1 E.2.1 dX1_takeFrom_55 rfl (lv_at hl 2 rfl) ?_
        refine g_ln (v := .int (S0 4 0 0)) E hP ((upL_ne (by decide)).trans hV0) (show 0 < 2 by decide) 4 (by decide) gw_164 rfl dX1_takeFrom_56 ?_
        refine p_ln E hP hA hS (upL_same V 1 U1) (show 1 < 2 by decide) 4 (by decide) gw_164 (V' := upL V 1 (up U1 4 0 0 (S0 4 0 0))) (upL_upL V 1 _ _) dX1_takeFrom_59 (fun H locs hP hS => ?_)
        refine lv_iconst (v := 0) E.1 E.2.1 dX1_takeFrom_62 (by decide) ?_
        refine lv_istore_n (lv' := [(2, .int 0), (0, .ref (ad Z (cLn 1))), (1, .ref (ad Z (cLn 0)))]) E.1 E.2.1 dX1_takeFrom_63 rfl hl (by decide) rfl (fun ls hl => ?_)
        have eq64 : up U1 4 0 0 (S0 4 0 0) = cpyC U S0 := by rw [ha, show i = nB S0 from by omega]; rfl
        rw [eq64] at hP
        have loop_64 : ∀ (n_64 : Nat) (i : Nat) (U1 : St), nR S0 - i < n_64 → (U1 = cpyD U S0 i) → (i ≤ nR S0) → ∀ (H : Heap) (locs : List Loc), va_P (gD Z) vwCl (bw Z (upL V 1 U1)) H → va_S (inW Z) s.heap H locs → ∀ (ls : Array Slot), lv_has ls 3 [(2, .int (nI i)), (0, .ref (ad Z (cLn 1))), (1, .ref (ad Z (cLn 0)))] → W p l e rm_X1_takeFrom s m args below meth c H locs 0 0 (MQ below (QX Z none V') args s 0 0 (inW Z)) (F0 m 64 ls []) := by
          intro n_64
          induction n_64 with
          | zero => intro i U1 hm_64; exact absurd hm_64 (by omega)
          | succ n_64 ih_64 =>
            intro i U1 hm_64 ha hi H locs hP hS ls hl
            have h2 : U1 4 0 0 = S0 4 0 0 := by rw [ha]; exact cpyD_4 U S0 i
            refine lv_iload_n E.1 E.2.1 dX1_takeFrom_64 rfl (lv_at hl 0 rfl) ?_
            refine lv_aload_n E.1 E.2.1 dX1_takeFrom_65 rfl (lv_at hl 1 rfl) ?_
            refine g_ln (v := .int (U1 4 0 0)) E hP (upL_same V 1 U1) (show 1 < 2 by decide) 4 (by decide) gw_164 rfl dX1_takeFrom_66 ?_
            refine lv_icmp_ge (tgt := 93) E.1 E.2.1 dX1_takeFrom_69 (by decide) (fun c_69 => ?_) (fun c_69 => ?_)
            · rw [h2] at c_69
              have hd : nR S0 ≤ i := lq1 (by omega) c_69
              refine lv_aload_n E.1 E.2.1 dX1_takeFrom_93 rfl (lv_at hl 1 rfl) ?_
              refine lv_aload_n E.1 E.2.1 dX1_takeFrom_94 rfl (lv_at hl 2 rfl) ?_
              refine g_ln (v := .int (S0 6 0 0)) E hP ((upL_ne (by decide)).trans hV0) (show 0 < 2 by decide) 6 (by decide) gw_148 rfl dX1_takeFrom_95 ?_
              refine p_ln E hP hA hS (upL_same V 1 U1) (show 1 < 2 by decide) 6 (by decide) gw_148 (V' := upL V 1 (up U1 6 0 0 (S0 6 0 0))) (upL_upL V 1 _ _) dX1_takeFrom_98 (fun H locs hP hS => ?_)
              refine lv_iconst (v := 0) E.1 E.2.1 dX1_takeFrom_101 (by decide) ?_
              refine lv_istore_n (lv' := [(2, .int 0), (0, .ref (ad Z (cLn 1))), (1, .ref (ad Z (cLn 0)))]) E.1 E.2.1 dX1_takeFrom_102 rfl hl (by decide) rfl (fun ls hl => ?_)
              have eq103 : up U1 6 0 0 (S0 6 0 0) = cpyE U S0 := by rw [ha, show i = nR S0 from by omega]; rfl
              rw [eq103] at hP
              have loop_103 : ∀ (n_103 : Nat) (i : Nat) (U1 : St), nT S0 - i < n_103 → (U1 = cpyF U S0 i) → (i ≤ nT S0) → ∀ (H : Heap) (locs : List Loc), va_P (gD Z) vwCl (bw Z (upL V 1 U1)) H → va_S (inW Z) s.heap H locs → ∀ (ls : Array Slot), lv_has ls 3 [(2, .int (nI i)), (0, .ref (ad Z (cLn 1))), (1, .ref (ad Z (cLn 0)))] → W p l e rm_X1_takeFrom s m args below meth c H locs 0 0 (MQ below (QX Z none V') args s 0 0 (inW Z)) (F0 m 103 ls []) := by
                intro n_103
                induction n_103 with
                | zero => intro i U1 hm_103; exact absurd hm_103 (by omega)
                | succ n_103 ih_103 =>
                  intro i U1 hm_103 ha hi H locs hP hS ls hl
                  have h2 : U1 6 0 0 = S0 6 0 0 := by rw [ha]; exact cpyF_6 U S0 i
                  refine lv_iload_n E.1 E.2.1 dX1_takeFrom_103 rfl (lv_at hl 0 rfl) ?_
                  refine lv_aload_n E.1 E.2.1 dX1_takeFrom_104 rfl (lv_at hl 1 rfl) ?_
                  refine g_ln (v := .int (U1 6 0 0)) E hP (upL_same V 1 U1) (show 1 < 2 by decide) 6 (by decide) gw_148 rfl dX1_takeFrom_105 ?_
                  refine lv_icmp_ge (tgt := 132) E.1 E.2.1 dX1_takeFrom_108 (by decide) (fun c_108 => ?_) (fun c_108 => ?_)
                  · rw [h2] at c_108
                    have hd : nT S0 ≤ i := lq1 (by omega) c_108
                    refine lv_aload_n E.1 E.2.1 dX1_takeFrom_132 rfl (lv_at hl 1 rfl) ?_
                    refine lv_aload_n E.1 E.2.1 dX1_takeFrom_133 rfl (lv_at hl 2 rfl) ?_
                    refine g_ln (v := .int (S0 7 0 0)) E hP ((upL_ne (by decide)).trans hV0) (show 0 < 2 by decide) 7 (by decide) gw_343 rfl dX1_takeFrom_134 ?_
                    refine p_ln E hP hA hS (upL_same V 1 U1) (show 1 < 2 by decide) 7 (by decide) gw_343 (V' := upL V 1 (up U1 7 0 0 (S0 7 0 0))) (upL_upL V 1 _ _) dX1_takeFrom_137 (fun H locs hP hS => ?_)
                    refine lv_aload_n E.1 E.2.1 dX1_takeFrom_140 rfl (lv_at hl 1 rfl) ?_
                    refine lv_aload_n E.1 E.2.1 dX1_takeFrom_141 rfl (lv_at hl 2 rfl) ?_
                    refine g_ln (v := .int (S0 8 0 0)) E hP ((upL_ne (by decide)).trans hV0) (show 0 < 2 by decide) 8 (by decide) gw_26 rfl dX1_takeFrom_142 ?_
                    refine p_ln E hP hA hS (upL_same V 1 (up U1 7 0 0 (S0 7 0 0))) (show 1 < 2 by decide) 8 (by decide) gw_26 (V' := upL V 1 (up (up U1 7 0 0 (S0 7 0 0)) 8 0 0 (S0 8 0 0))) (upL_upL V 1 _ _) dX1_takeFrom_145 (fun H locs hP hS => ?_)
                    refine lv_aload_n E.1 E.2.1 dX1_takeFrom_148 rfl (lv_at hl 1 rfl) ?_
                    refine lv_aload_n E.1 E.2.1 dX1_takeFrom_149 rfl (lv_at hl 2 rfl) ?_
                    refine g_ln (v := .int (S0 9 0 0)) E hP ((upL_ne (by decide)).trans hV0) (show 0 < 2 by decide) 9 (by decide) gw_278 rfl dX1_takeFrom_150 ?_
                    refine p_ln E hP hA hS (upL_same V 1 (up (up U1 7 0 0 (S0 7 0 0)) 8 0 0 (S0 8 0 0))) (show 1 < 2 by decide) 9 (by decide) gw_278 (V' := upL V 1 (up (up (up U1 7 0 0 (S0 7 0 0)) 8 0 0 (S0 8 0 0)) 9 0 0 (S0 9 0 0))) (upL_upL V 1 _ _) dX1_takeFrom_153 (fun H locs hP hS => ?_)
                    exact e_vX E hr hlk hP hS (fin1 hV' (by rw [ha, show i = nT S0 from by omega]; rfl)) dX1_takeFrom_156
                  · rw [h2] at c_108
                    have hd : i < nT S0 := lq2 (by omega) c_108
                    refine lv_aload_n E.1 E.2.1 dX1_takeFrom_111 rfl (lv_at hl 1 rfl) ?_
                    refine g_ln E hP (upL_same V 1 U1) (show 1 < 2 by decide) 5 (by decide) gw_25 rfl dX1_takeFrom_112 ?_
                    refine lv_iload_n E.1 E.2.1 dX1_takeFrom_115 rfl (lv_at hl 0 rfl) ?_
                    refine a_tr (k := i) E hP (show 1 < 2 by decide) (nI_clamp (by omega)) (vp_in_nI (by omega) (by omega)) dX1_takeFrom_116 ?_
                    refine lv_aload_n E.1 E.2.1 dX1_takeFrom_117 rfl (lv_at hl 2 rfl) ?_
                    refine g_ln E hP ((upL_ne (by decide)).trans hV0) (show 0 < 2 by decide) 5 (by decide) gw_25 rfl dX1_takeFrom_118 ?_
                    refine lv_iload_n E.1 E.2.1 dX1_takeFrom_121 rfl (lv_at hl 0 rfl) ?_
                    refine a_tr (k := i) E hP (show 0 < 2 by decide) (nI_clamp (by omega)) (vp_in_nI (by omega) (by omega)) dX1_takeFrom_122 ?_
                    refine go_Xv (run_V (rest := []) E hml hl.1 (c_X3_takeFrom l hA (V' := upL V 1 (trCopyF U1 S0 i)) ((upL_ne (by decide)).trans hV0) (upL_same V 1 U1) (by omega) (upL_upL V 1 _ _)) k_X3_takeFrom ⟨rfl, rfl, Nat.le_of_ble_eq_true rfl, Nat.le_of_ble_eq_true rfl⟩ gw_356 gw_357 gw_358 hP (rv_tr E hP (show 1 < 2 by decide) (by omega)) rfl rfl (Nat.le_of_ble_eq_true rfl) ⟨Nat.zero_le _, Nat.zero_le _⟩ dX1_takeFrom_123) hS (fun H locs hP hS => ?_)
                    refine lv_iinc (v := (nI (i + 1))) (lv' := [(2, .int (nI (i + 1))), (0, .ref (ad Z (cLn 1))), (1, .ref (ad Z (cLn 0)))]) E.1 E.2.1 dX1_takeFrom_126 hl (k := 0) rfl (nI_1 _) (by decide) rfl (fun ls hl => ?_)
                    refine lv_goto (tgt := 103) E.1 E.2.1 dX1_takeFrom_129 (by decide) ?_
                    exact ih_103 (i + 1) _ (by omega) (by rw [ha]; rfl) (by omega) H locs hP hS ls (lv_sub hl [0, 1, 2] rfl)
              exact loop_103 (nT S0 + 1) 0 (cpyE U S0) (by omega) rfl (Nat.zero_le _) _ _ hP hS _ (lv_sub hl [0, 1, 2] rfl)
            · rw [h2] at c_69
              have hd : i < nR S0 := lq2 (by omega) c_69
              refine lv_aload_n E.1 E.2.1 dX1_takeFrom_72 rfl (lv_at hl 1 rfl) ?_
              refine g_ln E hP (upL_same V 1 U1) (show 1 < 2 by decide) 3 (by decide) gw_23 rfl dX1_takeFrom_73 ?_
              refine lv_iload_n E.1 E.2.1 dX1_takeFrom_76 rfl (lv_at hl 0 rfl) ?_
              refine a_rt (k := i) E hP (show 1 < 2 by decide) (nI_clamp (by omega)) (vp_in_nI (by omega) (by omega)) dX1_takeFrom_77 ?_
              refine lv_aload_n E.1 E.2.1 dX1_takeFrom_78 rfl (lv_at hl 2 rfl) ?_
              refine g_ln E hP ((upL_ne (by decide)).trans hV0) (show 0 < 2 by decide) 3 (by decide) gw_23 rfl dX1_takeFrom_79 ?_
              refine lv_iload_n E.1 E.2.1 dX1_takeFrom_82 rfl (lv_at hl 0 rfl) ?_
              refine a_rt (k := i) E hP (show 0 < 2 by decide) (nI_clamp (by omega)) (vp_in_nI (by omega) (by omega)) dX1_takeFrom_83 ?_
              refine go_Xv (run_V (rest := []) E hml hl.1 (c_X2_takeFrom l hA (V' := upL V 1 (rtCopyF U1 S0 i)) ((upL_ne (by decide)).trans hV0) (upL_same V 1 U1) (by omega) (hz _ hd) (upL_upL V 1 _ _)) k_X2_takeFrom ⟨rfl, rfl, Nat.le_of_ble_eq_true rfl, Nat.le_of_ble_eq_true rfl⟩ gw_350 gw_351 gw_352 hP (rv_rt E hP (show 1 < 2 by decide) (by omega)) rfl rfl (Nat.le_of_ble_eq_true rfl) ⟨Nat.zero_le _, Nat.zero_le _⟩ dX1_takeFrom_84) hS (fun H locs hP hS => ?_)
              refine lv_iinc (v := (nI (i + 1))) (lv' := [(2, .int (nI (i + 1))), (0, .ref (ad Z (cLn 1))), (1, .ref (ad Z (cLn 0)))]) E.1 E.2.1 dX1_takeFrom_87 hl (k := 0) rfl (nI_1 _) (by decide) rfl (fun ls hl => ?_)
              refine lv_goto (tgt := 64) E.1 E.2.1 dX1_takeFrom_90 (by decide) ?_
              exact ih_64 (i + 1) _ (by omega) (by rw [ha]; rfl) (by omega) H locs hP hS ls (lv_sub hl [0, 1, 2] rfl)
        exact loop_64 (nR S0 + 1) 0 (cpyC U S0) (by omega) rfl (Nat.zero_le _) _ _ hP hS _ (lv_sub hl [0, 1, 2] rfl)
      · rw [h2] at c_30
        have hd : i < nB S0 := lq2 (by omega) c_30
        refine lv_aload_n E.1 E.2.1 dX1_takeFrom_33 rfl (lv_at hl 1 rfl) ?_
        refine g_ln E hP (upL_same V 1 U1) (show 1 < 2 by decide) 1 (by decide) gw_21 rfl dX1_takeFrom_34 ?_
        refine lv_iload_n E.1 E.2.1 dX1_takeFrom_37 rfl (lv_at hl 0 rfl) ?_
        refine a_bk (k := i) E hP (show 1 < 2 by decide) (nI_clamp (by omega)) (vp_in_nI (by omega) (by omega)) dX1_takeFrom_38 ?_
        refine lv_aload_n E.1 E.2.1 dX1_takeFrom_39 rfl (lv_at hl 2 rfl) ?_
        refine g_ln E hP ((upL_ne (by decide)).trans hV0) (show 0 < 2 by decide) 1 (by decide) gw_21 rfl dX1_takeFrom_40 ?_
        refine lv_iload_n E.1 E.2.1 dX1_takeFrom_43 rfl (lv_at hl 0 rfl) ?_
        refine a_bk (k := i) E hP (show 0 < 2 by decide) (nI_clamp (by omega)) (vp_in_nI (by omega) (by omega)) dX1_takeFrom_44 ?_
        refine go_Xv (run_V (rest := []) E hml hl.1 (c_X0_takeFrom l hA (V' := upL V 1 (bkCopyF U1 S0 i)) ((upL_ne (by decide)).trans hV0) (upL_same V 1 U1) (by omega) (upL_upL V 1 _ _)) k_X0_takeFrom ⟨rfl, rfl, Nat.le_of_ble_eq_true rfl, Nat.le_of_ble_eq_true rfl⟩ gw_344 gw_345 gw_346 hP (rv_bk E hP (show 1 < 2 by decide) (by omega)) rfl rfl (Nat.le_of_ble_eq_true rfl) ⟨Nat.zero_le _, Nat.zero_le _⟩ dX1_takeFrom_45) hS (fun H locs hP hS => ?_)
        refine lv_iinc (v := (nI (i + 1))) (lv' := [(2, .int (nI (i + 1))), (0, .ref (ad Z (cLn 1))), (1, .ref (ad Z (cLn 0)))]) E.1 E.2.1 dX1_takeFrom_48 hl (k := 0) rfl (nI_1 _) (by decide) rfl (fun ls hl => ?_)
        refine lv_goto (tgt := 25) E.1 E.2.1 dX1_takeFrom_51 (by decide) ?_
        exact ih_25 (i + 1) _ (by omega) (by rw [ha]; rfl) (by omega) H locs hP hS ls (lv_sub hl [0, 1, 2] rfl)
  exact loop_25 (nB S0 + 1) 0 (cpyA U S0) (by omega) rfl (Nat.zero_le _) _ _ hP hS _ (lv_sub hl [0, 1, 2] rfl)
end
section
/-! SemaphoreBay: what each call of the face answers, and does. -/
def mixF (d : Int64) (v : Int32) : Int64 := d * 31 + v.toInt64
def oneF (z : Int32) : Int32 := if z = 0 then 0 else 1
def manyF (S : St) : Nat → Int32
  | 0 => S 2 0 0
  | 1 => S 4 0 0
  | 2 => S 6 0 0
  | 3 => nI (cntTo (doneF S) (nT S))
  | 4 => nI (cntTo (atStF S) (nT S))
  | 5 => nI (cntTo (onBlockF S) (nT S))
  | _ => nI (cntTo (stuckF S) (nT S))
def stationQ (S : St) (x : Int32) : Nat → Int32
  | 0 => S 0 0 x.toNatClampNeg
  | 1 => nI (cntTo (atQ S x) (nT S))
  | _ => nI (cntTo (wayQ S x) (nT S))
def blockQ (S : St) (b : Nat) : Nat → Int32
  | 0 => S 10 b 0
  | 1 => S 11 b 0
  | 2 => S 12 b 0
  | _ => tillF S (S 13 b 0)
def routeQ (S : St) (r : Nat) : Nat → Int32
  | 2 => S 23 r 0
  | _ => oneF (S 22 r 0)
def trainQ (S : St) (k : Nat) : Nat → Int32
  | 0 => S 30 k 0
  | 1 => S 31 k 0
  | 2 => S 32 k 0
  | 3 => S 35 k 0
  | 4 => S 36 k 0
  | 5 => underF S k
  | 6 => S 38 k 0
  | 7 => S 40 k 0
  | 8 => S 42 k 0
  | 9 => S 43 k 0
  | 10 => oneF (b2i (readyF S k))
  | 11 => oneF (b2i (atEndF S k))
  | _ => tillF S (S 41 k 0)
def planF (S : St) (k : Nat) (q z : Int32) : Int32 := if z = 0 then stationF S k q else timeF S k q
def blockF (S : St) (x : Int32) : St := up (up S 10 (S 2 0 0).toNatClampNeg 0 x) 2 0 0 (S 2 0 0 + 1)
def routeF (S : St) (a b x z : Int32) : St := up (addBlockF (layF S (S 4 0 0).toNatClampNeg a b z) (S 4 0 0).toNatClampNeg x) 4 0 0 (S 4 0 0 + 1)
def orderF (S : St) (a b : Int32) : St := up (up S 7 0 0 a) 8 0 0 b
def trainF (S : St) (a b x t : Int32) : St := up (addStopF (up (up (up (up S 30 (S 6 0 0).toNatClampNeg 0 a) 31 (S 6 0 0).toNatClampNeg 0 b) 36 (S 6 0 0).toNatClampNeg 0 x) 37 (S 6 0 0).toNatClampNeg 0 (S 9 0 0)) (S 6 0 0).toNatClampNeg x t) 6 0 0 (S 6 0 0 + 1)
def doneInS (U : St) (k : Nat) : St := if doneF U k = true then U else tickF U
def doneInF (U : St) (k : Nat) : Int32 := if doneF U k = true then 0 else if doneF (tickF U) k = true then 1 else -1
def stuckInS (U : St) : St := if nI (cntTo (stuckF U) (nT U)) = 0 then tickF U else U
def stuckInF (U : St) : Int32 := if nI (cntTo (stuckF U) (nT U)) = 0 then (if nI (cntTo (stuckF (tickF U)) (nT (tickF U))) ≤ 0 then -1 else 1) else (if nI (cntTo (stuckF U) (nT U)) ≤ 0 then -1 else 0)
def digL (g : Nat → Int32) : Nat → Int64 → Int64
  | 0, d => d
  | n + 1, d => mixF (digL g n d) (g n)
def dig2 (h : Nat → Nat → Int32) (k : Nat) : Nat → Int64 → Int64
  | 0, d => d
  | n + 1, d => digL (h n) k (dig2 h k n d)
def trainD (S : St) (t : Nat) (d : Int64) : Int64 := digL (fun o => S 45 t o) (nT S) (mixF (mixF (digL (trainQ S t) 13 d) (S 44 t 0)) (oneF (b2i (stuckF S t))))
def digT (S : St) : Nat → Int64 → Int64
  | 0, d => d
  | n + 1, d => trainD S n (digT S n d)
def dig1 (S : St) : Int64 := digL (manyF S) 7 (mixF 58091 (S 9 0 0))
def digF (S : St) : Int64 := digT S (nT S) (dig2 (blockQ S) 4 (nB S) (dig2 (fun q => stationQ S (nI q)) 3 6 (dig1 S)))
theorem dig2_s (h : Nat → Nat → Int32) (k n : Nat) (d : Int64) : digL (h n) k (dig2 h k n d) = dig2 h k (n + 1) d := rfl
theorem digL_0 (g : Nat → Int32) (d : Int64) : d = digL g 0 d := rfl
theorem digL_s (g : Nat → Int32) (n : Nat) (d : Int64) : mixF (digL g n d) (g n) = digL g (n + 1) d := rfl
theorem dig2_0 (h : Nat → Nat → Int32) (k : Nat) (d : Int64) : d = dig2 h k 0 d := rfl
theorem digT_0 (S : St) (d : Int64) : d = digT S 0 d := rfl
theorem digT_s (S : St) (n : Nat) (d : Int64) : trainD S n (digT S n d) = digT S (n + 1) d := rfl
theorem ticks1 (U : St) : ticksF U (1 : Int32).toNatClampNeg = tickF U := rfl
theorem nI_ltc {x : Int32} {k : Nat} (h : k < x.toNatClampNeg) : nI k < x := by
  have h31 := clamp_lt31 x
  exact Int32.not_le.mp fun q => by
    have := (le_nI (x := x) (i := k) (by omega)).mp q
    omega
theorem KC_take (U S : St) : KC (takeF U S) S := by
  have h2 : takeF U S 2 0 0 = S 2 0 0 := by
    have h1 := (KC_iter (g := fun i T => trCopyF T S i) (fun _ T => KC_trc (KC_refl T)) (nT S) (cpyE U S)).1
    have h3 := (KC_iter (g := fun i T => rtCopyF T S i) (fun _ T => KC_rtc (KC_refl T)) (nR S) (cpyC U S)).1
    have e1 : takeF U S 2 0 0 = cpyF U S (nT S) 2 0 0 := by simp [takeF, up_f]
    have e2 : cpyE U S 2 0 0 = cpyD U S (nR S) 2 0 0 := by simp [cpyE, up_f]
    have e3 : cpyC U S 2 0 0 = cpyB U S (nB S) 2 0 0 := by simp [cpyC, up_f]
    rw [e1, show cpyF U S (nT S) 2 0 0 = _ from h1, e2, show cpyD U S (nR S) 2 0 0 = _ from h3, e3, cpyB_2]
  have h4 : takeF U S 4 0 0 = S 4 0 0 := by
    have h1 := (KC_iter (g := fun i T => trCopyF T S i) (fun _ T => KC_trc (KC_refl T)) (nT S) (cpyE U S)).2.1
    have e1 : takeF U S 4 0 0 = cpyF U S (nT S) 4 0 0 := by simp [takeF, up_f]
    have e2 : cpyE U S 4 0 0 = cpyD U S (nR S) 4 0 0 := by simp [cpyE, up_f]
    rw [e1, show cpyF U S (nT S) 4 0 0 = _ from h1, e2, cpyD_4]
  have h6 : takeF U S 6 0 0 = S 6 0 0 := by
    have e1 : takeF U S 6 0 0 = cpyF U S (nT S) 6 0 0 := by simp [takeF, up_f]
    rw [e1, cpyF_6]
  exact ⟨h2, h4, h6⟩
abbrev rm_X4_needNumber : Room := { frames := 0, cells := 0, slots := 0, locals := 0 }
theorem k_X4_needNumber : Card yX4_needNumber cX4_needNumber 2 none 2 := ⟨gw_85, gw_2, by decide +kernel, by decide +kernel⟩
set_option maxHeartbeats 4000000 in
set_option maxRecDepth 20000 in
theorem c_X4_needNumber (l : Launch) {Z : Gm} {V : Nat → St} (x n : Int32) (h0 : ¬ x < 0) (h1 : x < n) : Met l yX4_needNumber (.code yX4_needNumber cX4_needNumber 2 none :: gG) rm_X4_needNumber (PW Z V [.int x, .int n]) (QP none) 0 0 (fun _ => False) := by
  refine met_of (by decide +kernel) (Nat.le_of_ble_eq_true rfl) ?_
  intro p e s m args below meth c ls E hr hlk hml hP hl
  have E : EE Z p s m args c cX4_needNumber RX4 := E
  have hl : lv_has ls 2 [(0, .int x), (1, .int n)] := hl
  refine lv_iload_n E.1 E.2.1 dX4_needNumber_0 rfl (lv_at hl 0 rfl) ?_
  refine lv_if_lt (tgt := 9) E.1 E.2.1 dX4_needNumber_1 (by decide) (fun c_1 => ?_) (fun c_1 => ?_)
  · exact absurd c_1 h0
  · refine lv_iload_n E.1 E.2.1 dX4_needNumber_4 rfl (lv_at hl 0 rfl) ?_
    refine lv_iload_n E.1 E.2.1 dX4_needNumber_5 rfl (lv_at hl 1 rfl) ?_
    refine lv_icmp_lt (tgt := 20) E.1 E.2.1 dX4_needNumber_6 (by decide) (fun c_6 => ?_) (fun c_6 => ?_)
    · exact e_vP E hr hlk dX4_needNumber_20
    · exact absurd h1 c_6

abbrev rm_X4_needWithin : Room := { frames := 0, cells := 0, slots := 0, locals := 0 }
theorem k_X4_needWithin : Card yX4_needWithin cX4_needWithin 3 none 3 := ⟨gw_71, gw_2, by decide +kernel, by decide +kernel⟩
set_option maxHeartbeats 4000000 in
set_option maxRecDepth 20000 in
theorem c_X4_needWithin (l : Launch) {Z : Gm} {V : Nat → St} (x a b : Int32) (h0 : ¬ x < a) (h1 : x ≤ b) : Met l yX4_needWithin (.code yX4_needWithin cX4_needWithin 3 none :: gG) rm_X4_needWithin (PW Z V [.int x, .int a, .int b]) (QP none) 0 0 (fun _ => False) := by
  refine met_of (by decide +kernel) (Nat.le_of_ble_eq_true rfl) ?_
  intro p e s m args below meth c ls E hr hlk hml hP hl
  have E : EE Z p s m args c cX4_needWithin RX4 := E
  have hl : lv_has ls 3 [(0, .int x), (1, .int a), (2, .int b)] := hl
  refine lv_iload_n E.1 E.2.1 dX4_needWithin_0 rfl (lv_at hl 0 rfl) ?_
  refine lv_iload_n E.1 E.2.1 dX4_needWithin_1 rfl (lv_at hl 1 rfl) ?_
  refine lv_icmp_lt (tgt := 10) E.1 E.2.1 dX4_needWithin_2 (by decide) (fun c_2 => ?_) (fun c_2 => ?_)
  · exact absurd c_2 h0
  · refine lv_iload_n E.1 E.2.1 dX4_needWithin_5 rfl (lv_at hl 0 rfl) ?_
    refine lv_iload_n E.1 E.2.1 dX4_needWithin_6 rfl (lv_at hl 2 rfl) ?_
    refine lv_icmp_le (tgt := 21) E.1 E.2.1 dX4_needWithin_7 (by decide) (fun c_7 => ?_) (fun c_7 => ?_)
    · exact e_vP E hr hlk dX4_needWithin_21
    · exact absurd h1 c_7

abbrev rm_X4_needStation : Room := { frames := 1, cells := 0, slots := 0, locals := 21 }
theorem k_X4_needStation : Card yX4_needStation cX4_needStation 1 none 1 := ⟨gw_82, gw_2, by decide +kernel, by decide +kernel⟩
set_option maxHeartbeats 4000000 in
set_option maxRecDepth 20000 in
theorem c_X4_needStation (l : Launch) {Z : Gm} {V : Nat → St} (x : Int32) (h0 : ¬ x < 0) (h1 : x < 6) : Met l yX4_needStation (.code yX4_needStation cX4_needStation 1 none :: gG) rm_X4_needStation (PW Z V [.int x]) (QP none) 0 0 (fun _ => False) := by
  refine met_of (by decide +kernel) (Nat.le_of_ble_eq_true rfl) ?_
  intro p e s m args below meth c ls E hr hlk hml hP hl
  have E : EE Z p s m args c cX4_needStation RX4 := E
  have hl : lv_has ls 1 [(0, .int x)] := hl
  refine lv_iload_n E.1 E.2.1 dX4_needStation_0 rfl (lv_at hl 0 rfl) ?_
  refine lv_bipush (v := 6) E.1 E.2.1 dX4_needStation_1 (by decide) ?_
  refine go_Pv (run_S (rest := []) E hml hl.1 (c_X4_needNumber l (V := V) x 6 h0 h1) k_X4_needNumber ⟨rfl, rfl, Nat.le_of_ble_eq_true rfl, Nat.le_of_ble_eq_true rfl⟩ gw_83 gw_84 hP  rfl rfl (Nat.le_of_ble_eq_true rfl) ⟨Nat.zero_le _, Nat.zero_le _⟩ dX4_needStation_3) ?_
  exact e_vP E hr hlk dX4_needStation_6

abbrev rm_X4_needBlock : Room := { frames := 1, cells := 0, slots := 0, locals := 21 }
theorem k_X4_needBlock : Card yX4_needBlock cX4_needBlock 2 none 1 := ⟨gw_91, gw_2, by decide +kernel, by decide +kernel⟩
set_option maxHeartbeats 4000000 in
set_option maxRecDepth 20000 in
theorem c_X4_needBlock (l : Launch) {Z : Gm} {V : Nat → St} {S : St} (hV : V 0 = S) (x : Int32) (h0 : ¬ x < 0) (h1 : x < S 2 0 0) : Met l yX4_needBlock (.code yX4_needBlock cX4_needBlock 2 none :: gG) rm_X4_needBlock (PW Z V [.ref (ad Z 0), .int x]) (QP none) 0 0 (fun _ => False) := by
  refine met_of (by decide +kernel) (Nat.le_of_ble_eq_true rfl) ?_
  intro p e s m args below meth c ls E hr hlk hml hP hl
  have E : EE Z p s m args c cX4_needBlock RX4 := E
  have hl : lv_has ls 2 [(0, .ref (ad Z 0)), (1, .int x)] := hl
  refine lv_iload_n E.1 E.2.1 dX4_needBlock_0 rfl (lv_at hl 1 rfl) ?_
  refine lv_aload_n E.1 E.2.1 dX4_needBlock_1 rfl (lv_at hl 0 rfl) ?_
  refine g_bay E hP 0 (by decide) gw_13 dX4_needBlock_2 ?_
  refine g_ln (v := .int (S 2 0 0)) E hP hV (show 0 < 2 by decide) 2 (by decide) gw_66 rfl dX4_needBlock_5 ?_
  refine go_Pv (run_S (rest := []) E hml hl.1 (c_X4_needNumber l (V := V) x (S 2 0 0) h0 h1) k_X4_needNumber ⟨rfl, rfl, Nat.le_of_ble_eq_true rfl, Nat.le_of_ble_eq_true rfl⟩ gw_83 gw_84 hP  rfl rfl (Nat.le_of_ble_eq_true rfl) ⟨Nat.zero_le _, Nat.zero_le _⟩ dX4_needBlock_8) ?_
  exact e_vP E hr hlk dX4_needBlock_11

abbrev rm_X4_needRoute : Room := { frames := 1, cells := 0, slots := 0, locals := 21 }
theorem k_X4_needRoute : Card yX4_needRoute cX4_needRoute 2 none 1 := ⟨gw_115, gw_2, by decide +kernel, by decide +kernel⟩
set_option maxHeartbeats 4000000 in
set_option maxRecDepth 20000 in
theorem c_X4_needRoute (l : Launch) {Z : Gm} {V : Nat → St} {S : St} (hV : V 0 = S) (x : Int32) (h0 : ¬ x < 0) (h1 : x < S 4 0 0) : Met l yX4_needRoute (.code yX4_needRoute cX4_needRoute 2 none :: gG) rm_X4_needRoute (PW Z V [.ref (ad Z 0), .int x]) (QP none) 0 0 (fun _ => False) := by
  refine met_of (by decide +kernel) (Nat.le_of_ble_eq_true rfl) ?_
  intro p e s m args below meth c ls E hr hlk hml hP hl
  have E : EE Z p s m args c cX4_needRoute RX4 := E
  have hl : lv_has ls 2 [(0, .ref (ad Z 0)), (1, .int x)] := hl
  refine lv_iload_n E.1 E.2.1 dX4_needRoute_0 rfl (lv_at hl 1 rfl) ?_
  refine lv_aload_n E.1 E.2.1 dX4_needRoute_1 rfl (lv_at hl 0 rfl) ?_
  refine g_bay E hP 0 (by decide) gw_13 dX4_needRoute_2 ?_
  refine g_ln (v := .int (S 4 0 0)) E hP hV (show 0 < 2 by decide) 4 (by decide) gw_78 rfl dX4_needRoute_5 ?_
  refine go_Pv (run_S (rest := []) E hml hl.1 (c_X4_needNumber l (V := V) x (S 4 0 0) h0 h1) k_X4_needNumber ⟨rfl, rfl, Nat.le_of_ble_eq_true rfl, Nat.le_of_ble_eq_true rfl⟩ gw_83 gw_84 hP  rfl rfl (Nat.le_of_ble_eq_true rfl) ⟨Nat.zero_le _, Nat.zero_le _⟩ dX4_needRoute_8) ?_
  exact e_vP E hr hlk dX4_needRoute_11

abbrev rm_X4_needTrain : Room := { frames := 1, cells := 0, slots := 0, locals := 21 }
theorem k_X4_needTrain : Card yX4_needTrain cX4_needTrain 2 none 1 := ⟨gw_196, gw_2, by decide +kernel, by decide +kernel⟩
set_option maxHeartbeats 4000000 in
set_option maxRecDepth 20000 in
theorem c_X4_needTrain (l : Launch) {Z : Gm} {V : Nat → St} {S : St} (hV : V 0 = S) (x : Int32) (h0 : ¬ x < 0) (h1 : x < S 6 0 0) : Met l yX4_needTrain (.code yX4_needTrain cX4_needTrain 2 none :: gG) rm_X4_needTrain (PW Z V [.ref (ad Z 0), .int x]) (QP none) 0 0 (fun _ => False) := by
  refine met_of (by decide +kernel) (Nat.le_of_ble_eq_true rfl) ?_
  intro p e s m args below meth c ls E hr hlk hml hP hl
  have E : EE Z p s m args c cX4_needTrain RX4 := E
  have hl : lv_has ls 2 [(0, .ref (ad Z 0)), (1, .int x)] := hl
  refine lv_iload_n E.1 E.2.1 dX4_needTrain_0 rfl (lv_at hl 1 rfl) ?_
  refine lv_aload_n E.1 E.2.1 dX4_needTrain_1 rfl (lv_at hl 0 rfl) ?_
  refine g_bay E hP 0 (by decide) gw_13 dX4_needTrain_2 ?_
  refine g_ln (v := .int (S 6 0 0)) E hP hV (show 0 < 2 by decide) 6 (by decide) gw_170 rfl dX4_needTrain_5 ?_
  refine go_Pv (run_S (rest := []) E hml hl.1 (c_X4_needNumber l (V := V) x (S 6 0 0) h0 h1) k_X4_needNumber ⟨rfl, rfl, Nat.le_of_ble_eq_true rfl, Nat.le_of_ble_eq_true rfl⟩ gw_83 gw_84 hP  rfl rfl (Nat.le_of_ble_eq_true rfl) ⟨Nat.zero_le _, Nat.zero_le _⟩ dX4_needTrain_8) ?_
  exact e_vP E hr hlk dX4_needTrain_11

abbrev rm_X4_mixed : Room := { frames := 0, cells := 0, slots := 0, locals := 0 }
theorem k_X4_mixed : Card yX4_mixed cX4_mixed 3 (some .long) 2 := ⟨gw_230, gw_2, by decide +kernel, by decide +kernel⟩
set_option maxHeartbeats 4000000 in
set_option maxRecDepth 20000 in
theorem c_X4_mixed (l : Launch) {Z : Gm} {V : Nat → St} (d : Int64) (v : Int32) : Met l yX4_mixed (.code yX4_mixed cX4_mixed 3 (some .long) :: gG) rm_X4_mixed (PW Z V [.long d, .int v]) (QP (some (.long (mixF d v)))) 0 0 (fun _ => False) := by
  refine met_of (by decide +kernel) (Nat.le_of_ble_eq_true rfl) ?_
  intro p e s m args below meth c ls E hr hlk hml hP hl
  have E : EE Z p s m args c cX4_mixed RX4 := E
  have hl : lv_has ls 3 [(0, .long d), (2, .int v)] := hl
  refine lv_lload_n E.1 E.2.1 dX4_mixed_0 rfl (lv_at hl 0 rfl) ?_
  refine lv_ldc2 (v := 31) E.1 E.2.1 E.2.2.1 (E.2.2.2.1 _ gw_231) dX4_mixed_1 ?_
  refine lv_lmul E.1 E.2.1 dX4_mixed_4 ?_
  refine lv_iload_n E.1 E.2.1 dX4_mixed_5 rfl (lv_at hl 1 rfl) ?_
  refine lv_i2l E.1 E.2.1 dX4_mixed_6 rfl ?_
  refine lv_ladd E.1 E.2.1 dX4_mixed_7 ?_
  exact e_lP E hr hlk (by rfl) dX4_mixed_8

abbrev rm_X4_oneIf : Room := { frames := 0, cells := 0, slots := 0, locals := 0 }
theorem k_X4_oneIf : Card yX4_oneIf cX4_oneIf 1 (some .int) 1 := ⟨gw_118, gw_2, by decide +kernel, by decide +kernel⟩
set_option maxHeartbeats 4000000 in
set_option maxRecDepth 20000 in
theorem c_X4_oneIf (l : Launch) {Z : Gm} {V : Nat → St} (z : Int32) : Met l yX4_oneIf (.code yX4_oneIf cX4_oneIf 1 (some .int) :: gG) rm_X4_oneIf (PW Z V [.int z]) (QP (some (.int (oneF z)))) 0 0 (fun _ => False) := by
  refine met_of (by decide +kernel) (Nat.le_of_ble_eq_true rfl) ?_
  intro p e s m args below meth c ls E hr hlk hml hP hl
  have E : EE Z p s m args c cX4_oneIf RX4 := E
  have hl : lv_has ls 1 [(0, .int z)] := hl
  refine lv_iload_n E.1 E.2.1 dX4_oneIf_0 rfl (lv_at hl 0 rfl) ?_
  refine lv_if_eq (tgt := 8) E.1 E.2.1 dX4_oneIf_1 (by decide) (fun c_1 => ?_) (fun c_1 => ?_)
  · refine lv_iconst (v := 0) E.1 E.2.1 dX4_oneIf_8 (by decide) ?_
    exact e_iP E hr hlk (by simp [oneF, c_1]) dX4_oneIf_9
  · refine lv_iconst (v := 1) E.1 E.2.1 dX4_oneIf_4 (by decide) ?_
    refine lv_goto (tgt := 9) E.1 E.2.1 dX4_oneIf_5 (by decide) ?_
    exact e_iP E hr hlk (by simp [oneF, c_1]) dX4_oneIf_9

abbrev rm_X4_clock : Room := { frames := 0, cells := 0, slots := 0, locals := 0 }
theorem k_X4_clock : Card yX4_clock cX4_clock 1 (some .int) 0 := ⟨gw_227, gw_2, by decide +kernel, by decide +kernel⟩
set_option maxHeartbeats 4000000 in
set_option maxRecDepth 20000 in
theorem c_X4_clock (l : Launch) {Z : Gm} {V : Nat → St} {S : St} (hV : V 0 = S)  : Met l yX4_clock (.code yX4_clock cX4_clock 1 (some .int) :: gG) rm_X4_clock (PW Z V [.ref (ad Z 0)]) (QP (some (.int (S 9 0 0)))) 0 0 (fun _ => False) := by
  refine met_of (by decide +kernel) (Nat.le_of_ble_eq_true rfl) ?_
  intro p e s m args below meth c ls E hr hlk hml hP hl
  have E : EE Z p s m args c cX4_clock RX4 := E
  have hl : lv_has ls 1 [(0, .ref (ad Z 0))] := hl
  refine lv_aload_n E.1 E.2.1 dX4_clock_0 rfl (lv_at hl 0 rfl) ?_
  refine g_bay E hP 0 (by decide) gw_13 dX4_clock_1 ?_
  refine g_ln (v := .int (S 9 0 0)) E hP hV (show 0 < 2 by decide) 9 (by decide) gw_175 rfl dX4_clock_4 ?_
  exact e_iP E hr hlk (by rfl) dX4_clock_7

abbrev rm_X4_many : Room := { frames := 2, cells := 0, slots := 0, locals := 45 }
theorem k_X4_many : Card yX4_many cX4_many 2 (some .int) 1 := ⟨gw_235, gw_2, by decide +kernel, by decide +kernel⟩
set_option maxHeartbeats 4000000 in
set_option maxRecDepth 20000 in
theorem c_X4_many (l : Launch) {Z : Gm} {V : Nat → St} {S : St} (hV : V 0 = S) (j : Nat) (hj : j ≤ 6) (hL : Lim S) : Met l yX4_many (.code yX4_many cX4_many 2 (some .int) :: gG) rm_X4_many (PW Z V [.ref (ad Z 0), .int (nI j)]) (QP (some (.int (manyF S j)))) 0 0 (fun _ => False) := by
  refine met_of (by decide +kernel) (Nat.le_of_ble_eq_true rfl) ?_
  intro p e s m args below meth c ls E hr hlk hml hP hl
  have E : EE Z p s m args c cX4_many RX4 := E
  have hl : lv_has ls 2 [(0, .ref (ad Z 0)), (1, .int (nI j))] := hl
  have hT := hL.2.2
  have hR := hL.2.1
  have hB := hL.1
  refine lv_iload_n E.1 E.2.1 dX4_many_0 rfl (lv_at hl 1 rfl) ?_
  refine lv_iconst (v := 0) E.1 E.2.1 dX4_many_1 (by decide) ?_
  refine lv_bipush (v := 6) E.1 E.2.1 dX4_many_2 (by decide) ?_
  refine go_Pv (run_S (rest := []) E hml hl.1 (c_X4_needWithin l (V := V) (nI j) 0 6 (nI_lt0 (by omega)) (nI_le (b := 6) (by omega) (by omega))) k_X4_needWithin ⟨rfl, rfl, Nat.le_of_ble_eq_true rfl, Nat.le_of_ble_eq_true rfl⟩ gw_69 gw_70 hP  rfl rfl (Nat.le_of_ble_eq_true rfl) ⟨Nat.zero_le _, Nat.zero_le _⟩ dX4_many_4) ?_
  refine lv_iload_n E.1 E.2.1 dX4_many_7 rfl (lv_at hl 1 rfl) ?_
  have hsw : j = 0 ∨ j = 1 ∨ j = 2 ∨ j = 3 ∨ j = 4 ∨ j = 5 ∨ j = 6 := by omega
  rcases hsw with rfl | rfl | rfl | rfl | rfl | rfl | rfl
  · refine lv_tableIn (tgt := 48) E.1 E.2.1 dX4_many_8 (by decide) (by decide) (by rfl) (by decide) ?_
    refine lv_aload_n E.1 E.2.1 dX4_many_48 rfl (lv_at hl 0 rfl) ?_
    refine g_bay E hP 0 (by decide) gw_13 dX4_many_49 ?_
    refine g_ln (v := .int (S 2 0 0)) E hP hV (show 0 < 2 by decide) 2 (by decide) gw_66 rfl dX4_many_52 ?_
    exact e_iP E hr hlk (by rfl) dX4_many_55
  · refine lv_tableIn (tgt := 56) E.1 E.2.1 dX4_many_8 (by decide) (by decide) (by rfl) (by decide) ?_
    refine lv_aload_n E.1 E.2.1 dX4_many_56 rfl (lv_at hl 0 rfl) ?_
    refine g_bay E hP 0 (by decide) gw_13 dX4_many_57 ?_
    refine g_ln (v := .int (S 4 0 0)) E hP hV (show 0 < 2 by decide) 4 (by decide) gw_78 rfl dX4_many_60 ?_
    exact e_iP E hr hlk (by rfl) dX4_many_63
  · refine lv_tableIn (tgt := 64) E.1 E.2.1 dX4_many_8 (by decide) (by decide) (by rfl) (by decide) ?_
    refine lv_aload_n E.1 E.2.1 dX4_many_64 rfl (lv_at hl 0 rfl) ?_
    refine g_bay E hP 0 (by decide) gw_13 dX4_many_65 ?_
    refine g_ln (v := .int (S 6 0 0)) E hP hV (show 0 < 2 by decide) 6 (by decide) gw_170 rfl dX4_many_68 ?_
    exact e_iP E hr hlk (by rfl) dX4_many_71
  · refine lv_tableIn (tgt := 72) E.1 E.2.1 dX4_many_8 (by decide) (by decide) (by rfl) (by decide) ?_
    refine lv_aload_n E.1 E.2.1 dX4_many_72 rfl (lv_at hl 0 rfl) ?_
    refine g_bay E hP 0 (by decide) gw_13 dX4_many_73 ?_
    refine go_Pi (run_V (rest := []) E hml hl.1 (c_X1_countDone l  hV (show 0 < 2 by decide) hL) k_X1_countDone ⟨rfl, rfl, Nat.le_of_ble_eq_true rfl, Nat.le_of_ble_eq_true rfl⟩ gw_236 gw_237 gw_238 hP (rv_ln E hP (show 0 < 2 by decide)) rfl rfl (Nat.le_of_ble_eq_true rfl) ⟨Nat.zero_le _, Nat.zero_le _⟩ dX4_many_76) ?_
    exact e_iP E hr hlk (by rfl) dX4_many_79
  · refine lv_tableIn (tgt := 80) E.1 E.2.1 dX4_many_8 (by decide) (by decide) (by rfl) (by decide) ?_
    refine lv_aload_n E.1 E.2.1 dX4_many_80 rfl (lv_at hl 0 rfl) ?_
    refine g_bay E hP 0 (by decide) gw_13 dX4_many_81 ?_
    refine go_Pi (run_V (rest := []) E hml hl.1 (c_X1_countAtStations l  hV (show 0 < 2 by decide) hL) k_X1_countAtStations ⟨rfl, rfl, Nat.le_of_ble_eq_true rfl, Nat.le_of_ble_eq_true rfl⟩ gw_241 gw_242 gw_243 hP (rv_ln E hP (show 0 < 2 by decide)) rfl rfl (Nat.le_of_ble_eq_true rfl) ⟨Nat.zero_le _, Nat.zero_le _⟩ dX4_many_84) ?_
    exact e_iP E hr hlk (by rfl) dX4_many_87
  · refine lv_tableIn (tgt := 88) E.1 E.2.1 dX4_many_8 (by decide) (by decide) (by rfl) (by decide) ?_
    refine lv_aload_n E.1 E.2.1 dX4_many_88 rfl (lv_at hl 0 rfl) ?_
    refine g_bay E hP 0 (by decide) gw_13 dX4_many_89 ?_
    refine go_Pi (run_V (rest := []) E hml hl.1 (c_X1_countOnBlocks l  hV (show 0 < 2 by decide) hL) k_X1_countOnBlocks ⟨rfl, rfl, Nat.le_of_ble_eq_true rfl, Nat.le_of_ble_eq_true rfl⟩ gw_249 gw_250 gw_251 hP (rv_ln E hP (show 0 < 2 by decide)) rfl rfl (Nat.le_of_ble_eq_true rfl) ⟨Nat.zero_le _, Nat.zero_le _⟩ dX4_many_92) ?_
    exact e_iP E hr hlk (by rfl) dX4_many_95
  · refine lv_tableOut (tgt := 96) E.1 E.2.1 dX4_many_8 (by decide) (by decide) ?_
    refine lv_aload_n E.1 E.2.1 dX4_many_96 rfl (lv_at hl 0 rfl) ?_
    refine g_bay E hP 0 (by decide) gw_13 dX4_many_97 ?_
    refine go_Pi (run_V (rest := []) E hml hl.1 (c_X1_countStuck l  hV (show 0 < 2 by decide) hL) k_X1_countStuck ⟨rfl, rfl, Nat.le_of_ble_eq_true rfl, Nat.le_of_ble_eq_true rfl⟩ gw_257 gw_258 gw_259 hP (rv_ln E hP (show 0 < 2 by decide)) rfl rfl (Nat.le_of_ble_eq_true rfl) ⟨Nat.zero_le _, Nat.zero_le _⟩ dX4_many_100) ?_
    exact e_iP E hr hlk (by rfl) dX4_many_103

abbrev rm_X4_station : Room := { frames := 2, cells := 0, slots := 0, locals := 41 }
theorem k_X4_station : Card yX4_station cX4_station 3 (some .int) 2 := ⟨gw_153, gw_2, by decide +kernel, by decide +kernel⟩
set_option maxHeartbeats 4000000 in
set_option maxRecDepth 20000 in
theorem c_X4_station (l : Launch) {Z : Gm} {V : Nat → St} {S : St} (hV : V 0 = S) (x : Int32) (h0 : ¬ x < 0) (h1 : x < 6) (j : Nat) (hj : j ≤ 2) (hL : Lim S) : Met l yX4_station (.code yX4_station cX4_station 3 (some .int) :: gG) rm_X4_station (PW Z V [.ref (ad Z 0), .int x, .int (nI j)]) (QP (some (.int (stationQ S x j)))) 0 0 (fun _ => False) := by
  refine met_of (by decide +kernel) (Nat.le_of_ble_eq_true rfl) ?_
  intro p e s m args below meth c ls E hr hlk hml hP hl
  have E : EE Z p s m args c cX4_station RX4 := E
  have hl : lv_has ls 3 [(0, .ref (ad Z 0)), (1, .int x), (2, .int (nI j))] := hl
  have hT := hL.2.2
  have hR := hL.2.1
  have hB := hL.1
  refine lv_iload_n E.1 E.2.1 dX4_station_0 rfl (lv_at hl 1 rfl) ?_
  refine go_Pv (run_S (rest := []) E hml hl.1 (c_X4_needStation l (V := V) x h0 h1) k_X4_needStation ⟨rfl, rfl, Nat.le_of_ble_eq_true rfl, Nat.le_of_ble_eq_true rfl⟩ gw_80 gw_81 hP  rfl rfl (Nat.le_of_ble_eq_true rfl) ⟨Nat.zero_le _, Nat.zero_le _⟩ dX4_station_1) ?_
  refine lv_iload_n E.1 E.2.1 dX4_station_4 rfl (lv_at hl 2 rfl) ?_
  refine lv_iconst (v := 0) E.1 E.2.1 dX4_station_5 (by decide) ?_
  refine lv_iconst (v := 2) E.1 E.2.1 dX4_station_6 (by decide) ?_
  refine go_Pv (run_S (rest := []) E hml hl.1 (c_X4_needWithin l (V := V) (nI j) 0 2 (nI_lt0 (by omega)) (nI_le (b := 2) (by omega) (by omega))) k_X4_needWithin ⟨rfl, rfl, Nat.le_of_ble_eq_true rfl, Nat.le_of_ble_eq_true rfl⟩ gw_69 gw_70 hP  rfl rfl (Nat.le_of_ble_eq_true rfl) ⟨Nat.zero_le _, Nat.zero_le _⟩ dX4_station_7) ?_
  refine lv_iload_n E.1 E.2.1 dX4_station_10 rfl (lv_at hl 2 rfl) ?_
  have hsw : j = 0 ∨ j = 1 ∨ j = 2 := by omega
  rcases hsw with rfl | rfl | rfl
  · refine lv_lookup (tgt := 36) E.1 E.2.1 dX4_station_11 (by decide) (by rfl) (by decide) ?_
    refine lv_aload_n E.1 E.2.1 dX4_station_36 rfl (lv_at hl 0 rfl) ?_
    refine g_bay E hP 0 (by decide) gw_13 dX4_station_37 ?_
    refine g_ln E hP hV (show 0 < 2 by decide) 0 (by decide) gw_154 rfl dX4_station_40 ?_
    refine lv_iload_n E.1 E.2.1 dX4_station_43 rfl (lv_at hl 1 rfl) ?_
    have hin_44 : vp_in x 6 := vinL h0 h1 (by decide)
    refine i_pl (j := (x.toNatClampNeg)) E hP hV (show 0 < 2 by decide) rfl hin_44 dX4_station_44 ?_
    exact e_iP E hr hlk (by rfl) dX4_station_45
  · refine lv_lookup (tgt := 46) E.1 E.2.1 dX4_station_11 (by decide) (by rfl) (by decide) ?_
    refine lv_aload_n E.1 E.2.1 dX4_station_46 rfl (lv_at hl 0 rfl) ?_
    refine g_bay E hP 0 (by decide) gw_13 dX4_station_47 ?_
    refine lv_iload_n E.1 E.2.1 dX4_station_50 rfl (lv_at hl 1 rfl) ?_
    refine go_Pi (run_V (rest := []) E hml hl.1 (c_X1_countAt l  hV (show 0 < 2 by decide) x hL) k_X1_countAt ⟨rfl, rfl, Nat.le_of_ble_eq_true rfl, Nat.le_of_ble_eq_true rfl⟩ gw_155 gw_156 gw_157 hP (rv_ln E hP (show 0 < 2 by decide)) rfl rfl (Nat.le_of_ble_eq_true rfl) ⟨Nat.zero_le _, Nat.zero_le _⟩ dX4_station_51) ?_
    exact e_iP E hr hlk (by rfl) dX4_station_54
  · refine lv_lookup (tgt := 55) E.1 E.2.1 dX4_station_11 (by decide) (by rfl) (by decide) ?_
    refine lv_aload_n E.1 E.2.1 dX4_station_55 rfl (lv_at hl 0 rfl) ?_
    refine g_bay E hP 0 (by decide) gw_13 dX4_station_56 ?_
    refine lv_iload_n E.1 E.2.1 dX4_station_59 rfl (lv_at hl 1 rfl) ?_
    refine go_Pi (run_V (rest := []) E hml hl.1 (c_X1_countOnTheWayTo l  hV (show 0 < 2 by decide) x hL) k_X1_countOnTheWayTo ⟨rfl, rfl, Nat.le_of_ble_eq_true rfl, Nat.le_of_ble_eq_true rfl⟩ gw_160 gw_161 gw_162 hP (rv_ln E hP (show 0 < 2 by decide)) rfl rfl (Nat.le_of_ble_eq_true rfl) ⟨Nat.zero_le _, Nat.zero_le _⟩ dX4_station_60) ?_
    exact e_iP E hr hlk (by rfl) dX4_station_63

abbrev rm_X4_ofBlock : Room := { frames := 2, cells := 0, slots := 0, locals := 42 }
theorem k_X4_ofBlock : Card yX4_ofBlock cX4_ofBlock 4 (some .int) 2 := ⟨gw_270, gw_2, by decide +kernel, by decide +kernel⟩
set_option maxHeartbeats 4000000 in
set_option maxRecDepth 20000 in
theorem c_X4_ofBlock (l : Launch) {Z : Gm} {V : Nat → St} {S : St} (hV : V 0 = S) (x : Int32) (h0 : ¬ x < 0) (h1 : x < S 2 0 0) (j : Nat) (hj : j ≤ 3) (hL : Lim S) : Met l yX4_ofBlock (.code yX4_ofBlock cX4_ofBlock 4 (some .int) :: gG) rm_X4_ofBlock (PW Z V [.ref (ad Z 0), .int x, .int (nI j)]) (QP (some (.int (blockQ S x.toNatClampNeg j)))) 0 0 (fun _ => False) := by
  refine met_of (by decide +kernel) (Nat.le_of_ble_eq_true rfl) ?_
  intro p e s m args below meth c ls E hr hlk hml hP hl
  have E : EE Z p s m args c cX4_ofBlock RX4 := E
  have hl : lv_has ls 4 [(0, .ref (ad Z 0)), (1, .int x), (2, .int (nI j))] := hl
  have hT := hL.2.2
  have hR := hL.2.1
  have hB := hL.1
  refine lv_aload_n E.1 E.2.1 dX4_ofBlock_0 rfl (lv_at hl 0 rfl) ?_
  refine lv_iload_n E.1 E.2.1 dX4_ofBlock_1 rfl (lv_at hl 1 rfl) ?_
  refine go_Pv (run_V (rest := []) E hml hl.1 (c_X4_needBlock l  hV x h0 h1) k_X4_needBlock ⟨rfl, rfl, Nat.le_of_ble_eq_true rfl, Nat.le_of_ble_eq_true rfl⟩ gw_88 gw_89 gw_90 hP (rv_bay E hP) rfl rfl (Nat.le_of_ble_eq_true rfl) ⟨Nat.zero_le _, Nat.zero_le _⟩ dX4_ofBlock_2) ?_
  refine lv_iload_n E.1 E.2.1 dX4_ofBlock_5 rfl (lv_at hl 2 rfl) ?_
  refine lv_iconst (v := 0) E.1 E.2.1 dX4_ofBlock_6 (by decide) ?_
  refine lv_iconst (v := 3) E.1 E.2.1 dX4_ofBlock_7 (by decide) ?_
  refine go_Pv (run_S (rest := []) E hml hl.1 (c_X4_needWithin l (V := V) (nI j) 0 3 (nI_lt0 (by omega)) (nI_le (b := 3) (by omega) (by omega))) k_X4_needWithin ⟨rfl, rfl, Nat.le_of_ble_eq_true rfl, Nat.le_of_ble_eq_true rfl⟩ gw_69 gw_70 hP  rfl rfl (Nat.le_of_ble_eq_true rfl) ⟨Nat.zero_le _, Nat.zero_le _⟩ dX4_ofBlock_8) ?_
  refine lv_aload_n E.1 E.2.1 dX4_ofBlock_11 rfl (lv_at hl 0 rfl) ?_
  refine g_bay E hP 0 (by decide) gw_13 dX4_ofBlock_12 ?_
  refine g_ln E hP hV (show 0 < 2 by decide) 1 (by decide) gw_67 rfl dX4_ofBlock_15 ?_
  refine lv_iload_n E.1 E.2.1 dX4_ofBlock_18 rfl (lv_at hl 1 rfl) ?_
  have hin_19 : vp_in x 16 := vinL h0 h1 (clamp_le hB)
  refine a_bk (k := (x.toNatClampNeg)) E hP (show 0 < 2 by decide) rfl hin_19 dX4_ofBlock_19 ?_
  refine lv_astore_n (lv' := [(3, .ref (ad Z (cBk 0 (x.toNatClampNeg)))), (0, .ref (ad Z 0)), (1, .int x), (2, .int (nI j))]) E.1 E.2.1 dX4_ofBlock_20 rfl hl (by decide) rfl (fun ls hl => ?_)
  refine lv_iload_n E.1 E.2.1 dX4_ofBlock_21 rfl (lv_at hl 3 rfl) ?_
  have hsw : j = 0 ∨ j = 1 ∨ j = 2 ∨ j = 3 := by omega
  rcases hsw with rfl | rfl | rfl | rfl
  · refine lv_tableIn (tgt := 48) E.1 E.2.1 dX4_ofBlock_22 (by decide) (by decide) (by rfl) (by decide) ?_
    refine lv_aload_n E.1 E.2.1 dX4_ofBlock_48 rfl (lv_at hl 0 rfl) ?_
    refine g_bk (v := .int (S 10 (x.toNatClampNeg) 0)) E hP hV (show 0 < 2 by decide) (vp_lt hin_19) 0 (by decide) gw_68 rfl dX4_ofBlock_49 ?_
    exact e_iP E hr hlk (by rfl) dX4_ofBlock_52
  · refine lv_tableIn (tgt := 53) E.1 E.2.1 dX4_ofBlock_22 (by decide) (by decide) (by rfl) (by decide) ?_
    refine lv_aload_n E.1 E.2.1 dX4_ofBlock_53 rfl (lv_at hl 0 rfl) ?_
    refine g_bk (v := .int (S 11 (x.toNatClampNeg) 0)) E hP hV (show 0 < 2 by decide) (vp_lt hin_19) 1 (by decide) gw_271 rfl dX4_ofBlock_54 ?_
    exact e_iP E hr hlk (by rfl) dX4_ofBlock_57
  · refine lv_tableIn (tgt := 58) E.1 E.2.1 dX4_ofBlock_22 (by decide) (by decide) (by rfl) (by decide) ?_
    refine lv_aload_n E.1 E.2.1 dX4_ofBlock_58 rfl (lv_at hl 0 rfl) ?_
    refine g_bk (v := .int (S 12 (x.toNatClampNeg) 0)) E hP hV (show 0 < 2 by decide) (vp_lt hin_19) 2 (by decide) gw_272 rfl dX4_ofBlock_59 ?_
    exact e_iP E hr hlk (by rfl) dX4_ofBlock_62
  · refine lv_tableOut (tgt := 63) E.1 E.2.1 dX4_ofBlock_22 (by decide) (by decide) ?_
    refine lv_aload_n E.1 E.2.1 dX4_ofBlock_63 rfl (lv_at hl 1 rfl) ?_
    refine g_bay E hP 0 (by decide) gw_13 dX4_ofBlock_64 ?_
    refine lv_aload_n E.1 E.2.1 dX4_ofBlock_67 rfl (lv_at hl 0 rfl) ?_
    refine g_bk (v := .int (S 13 (x.toNatClampNeg) 0)) E hP hV (show 0 < 2 by decide) (vp_lt hin_19) 3 (by decide) gw_273 rfl dX4_ofBlock_68 ?_
    refine go_Pi (run_V (rest := []) E hml hl.1 (c_X1_tillOrNone l  hV (show 0 < 2 by decide) (S 13 (x.toNatClampNeg) 0)) k_X1_tillOrNone ⟨rfl, rfl, Nat.le_of_ble_eq_true rfl, Nat.le_of_ble_eq_true rfl⟩ gw_274 gw_275 gw_276 hP (rv_ln E hP (show 0 < 2 by decide)) rfl rfl (Nat.le_of_ble_eq_true rfl) ⟨Nat.zero_le _, Nat.zero_le _⟩ dX4_ofBlock_71) ?_
    exact e_iP E hr hlk (by rfl) dX4_ofBlock_74

abbrev rm_X4_onRoute : Room := { frames := 2, cells := 0, slots := 0, locals := 42 }
theorem k_X4_onRoute : Card yX4_onRoute cX4_onRoute 3 (some .int) 2 := ⟨gw_133, gw_2, by decide +kernel, by decide +kernel⟩
set_option maxHeartbeats 4000000 in
set_option maxRecDepth 20000 in
theorem c_X4_onRoute (l : Launch) {Z : Gm} {V : Nat → St} {S : St} (hV : V 0 = S) (x : Int32) (h0 : ¬ x < 0) (h1 : x < S 4 0 0) (q : Int32) (q0 : ¬ q < 0) (q1 : q < S 23 x.toNatClampNeg 0) (hL : Lim S) : Met l yX4_onRoute (.code yX4_onRoute cX4_onRoute 3 (some .int) :: gG) rm_X4_onRoute (PW Z V [.ref (ad Z 0), .int x, .int q]) (QP (some (.int (blockAtF S x.toNatClampNeg q)))) 0 0 (fun _ => False) := by
  refine met_of (by decide +kernel) (Nat.le_of_ble_eq_true rfl) ?_
  intro p e s m args below meth c ls E hr hlk hml hP hl
  have E : EE Z p s m args c cX4_onRoute RX4 := E
  have hl : lv_has ls 3 [(0, .ref (ad Z 0)), (1, .int x), (2, .int q)] := hl
  have hT := hL.2.2
  have hR := hL.2.1
  have hB := hL.1
  refine lv_aload_n E.1 E.2.1 dX4_onRoute_0 rfl (lv_at hl 0 rfl) ?_
  refine lv_iload_n E.1 E.2.1 dX4_onRoute_1 rfl (lv_at hl 1 rfl) ?_
  refine go_Pv (run_V (rest := []) E hml hl.1 (c_X4_needRoute l  hV x h0 h1) k_X4_needRoute ⟨rfl, rfl, Nat.le_of_ble_eq_true rfl, Nat.le_of_ble_eq_true rfl⟩ gw_112 gw_113 gw_114 hP (rv_bay E hP) rfl rfl (Nat.le_of_ble_eq_true rfl) ⟨Nat.zero_le _, Nat.zero_le _⟩ dX4_onRoute_2) ?_
  refine lv_iload_n E.1 E.2.1 dX4_onRoute_5 rfl (lv_at hl 2 rfl) ?_
  refine lv_aload_n E.1 E.2.1 dX4_onRoute_6 rfl (lv_at hl 0 rfl) ?_
  refine g_bay E hP 0 (by decide) gw_13 dX4_onRoute_7 ?_
  refine g_ln E hP hV (show 0 < 2 by decide) 3 (by decide) gw_79 rfl dX4_onRoute_10 ?_
  refine lv_iload_n E.1 E.2.1 dX4_onRoute_13 rfl (lv_at hl 1 rfl) ?_
  have hin_14 : vp_in x 16 := vinL h0 h1 (clamp_le hR)
  refine a_rt (k := (x.toNatClampNeg)) E hP (show 0 < 2 by decide) rfl hin_14 dX4_onRoute_14 ?_
  refine g_rt (v := .int (S 23 (x.toNatClampNeg) 0)) E hP hV (show 0 < 2 by decide) (vp_lt hin_14) 3 (by decide) gw_110 rfl dX4_onRoute_15 ?_
  refine go_Pv (run_S (rest := []) E hml hl.1 (c_X4_needNumber l (V := V) q (S 23 (x.toNatClampNeg) 0) q0 q1) k_X4_needNumber ⟨rfl, rfl, Nat.le_of_ble_eq_true rfl, Nat.le_of_ble_eq_true rfl⟩ gw_83 gw_84 hP  rfl rfl (Nat.le_of_ble_eq_true rfl) ⟨Nat.zero_le _, Nat.zero_le _⟩ dX4_onRoute_18) ?_
  refine lv_aload_n E.1 E.2.1 dX4_onRoute_21 rfl (lv_at hl 0 rfl) ?_
  refine g_bay E hP 0 (by decide) gw_13 dX4_onRoute_22 ?_
  refine g_ln E hP hV (show 0 < 2 by decide) 3 (by decide) gw_79 rfl dX4_onRoute_25 ?_
  refine lv_iload_n E.1 E.2.1 dX4_onRoute_28 rfl (lv_at hl 1 rfl) ?_
  have hin_29 : vp_in x 16 := vinL h0 h1 (clamp_le hR)
  refine a_rt (k := (x.toNatClampNeg)) E hP (show 0 < 2 by decide) rfl hin_29 dX4_onRoute_29 ?_
  refine lv_iload_n E.1 E.2.1 dX4_onRoute_30 rfl (lv_at hl 2 rfl) ?_
  refine go_Pi (run_V (rest := []) E hml hl.1 (c_X2_blockAt l  hV (show 0 < 2 by decide) (vp_lt hin_29) q) k_X2_blockAt ⟨rfl, rfl, Nat.le_of_ble_eq_true rfl, Nat.le_of_ble_eq_true rfl⟩ gw_134 gw_127 gw_128 hP (rv_rt E hP (show 0 < 2 by decide) (vp_lt hin_29)) rfl rfl (Nat.le_of_ble_eq_true rfl) ⟨Nat.zero_le _, Nat.zero_le _⟩ dX4_onRoute_31) ?_
  exact e_iP E hr hlk (by rfl) dX4_onRoute_34

abbrev rm_X4_ofRoute : Room := { frames := 2, cells := 0, slots := 0, locals := 42 }
theorem k_X4_ofRoute : Card yX4_ofRoute cX4_ofRoute 4 (some .int) 2 := ⟨gw_107, gw_2, by decide +kernel, by decide +kernel⟩
set_option maxHeartbeats 4000000 in
set_option maxRecDepth 20000 in
theorem c_X4_ofRoute (l : Launch) {Z : Gm} {V : Nat → St} {S : St} (hV : V 0 = S) (x : Int32) (h0 : ¬ x < 0) (h1 : x < S 4 0 0) (j : Nat) (hj : 2 ≤ j ∧ j ≤ 3) (hL : Lim S) : Met l yX4_ofRoute (.code yX4_ofRoute cX4_ofRoute 4 (some .int) :: gG) rm_X4_ofRoute (PW Z V [.ref (ad Z 0), .int x, .int (nI j)]) (QP (some (.int (routeQ S x.toNatClampNeg j)))) 0 0 (fun _ => False) := by
  refine met_of (by decide +kernel) (Nat.le_of_ble_eq_true rfl) ?_
  intro p e s m args below meth c ls E hr hlk hml hP hl
  have E : EE Z p s m args c cX4_ofRoute RX4 := E
  have hl : lv_has ls 4 [(0, .ref (ad Z 0)), (1, .int x), (2, .int (nI j))] := hl
  have hT := hL.2.2
  have hR := hL.2.1
  have hB := hL.1
  refine lv_aload_n E.1 E.2.1 dX4_ofRoute_0 rfl (lv_at hl 0 rfl) ?_
  refine lv_iload_n E.1 E.2.1 dX4_ofRoute_1 rfl (lv_at hl 1 rfl) ?_
  refine go_Pv (run_V (rest := []) E hml hl.1 (c_X4_needRoute l  hV x h0 h1) k_X4_needRoute ⟨rfl, rfl, Nat.le_of_ble_eq_true rfl, Nat.le_of_ble_eq_true rfl⟩ gw_112 gw_113 gw_114 hP (rv_bay E hP) rfl rfl (Nat.le_of_ble_eq_true rfl) ⟨Nat.zero_le _, Nat.zero_le _⟩ dX4_ofRoute_2) ?_
  refine lv_iload_n E.1 E.2.1 dX4_ofRoute_5 rfl (lv_at hl 2 rfl) ?_
  refine lv_iconst (v := 0) E.1 E.2.1 dX4_ofRoute_6 (by decide) ?_
  refine lv_iconst (v := 4) E.1 E.2.1 dX4_ofRoute_7 (by decide) ?_
  refine go_Pv (run_S (rest := []) E hml hl.1 (c_X4_needWithin l (V := V) (nI j) 0 4 (nI_lt0 (by omega)) (nI_le (b := 4) (by omega) (by omega))) k_X4_needWithin ⟨rfl, rfl, Nat.le_of_ble_eq_true rfl, Nat.le_of_ble_eq_true rfl⟩ gw_69 gw_70 hP  rfl rfl (Nat.le_of_ble_eq_true rfl) ⟨Nat.zero_le _, Nat.zero_le _⟩ dX4_ofRoute_8) ?_
  refine lv_aload_n E.1 E.2.1 dX4_ofRoute_11 rfl (lv_at hl 0 rfl) ?_
  refine g_bay E hP 0 (by decide) gw_13 dX4_ofRoute_12 ?_
  refine g_ln E hP hV (show 0 < 2 by decide) 3 (by decide) gw_79 rfl dX4_ofRoute_15 ?_
  refine lv_iload_n E.1 E.2.1 dX4_ofRoute_18 rfl (lv_at hl 1 rfl) ?_
  have hin_19 : vp_in x 16 := vinL h0 h1 (clamp_le hR)
  refine a_rt (k := (x.toNatClampNeg)) E hP (show 0 < 2 by decide) rfl hin_19 dX4_ofRoute_19 ?_
  refine lv_astore_n (lv' := [(3, .ref (ad Z (cRt 0 (x.toNatClampNeg)))), (0, .ref (ad Z 0)), (1, .int x), (2, .int (nI j))]) E.1 E.2.1 dX4_ofRoute_20 rfl hl (by decide) rfl (fun ls hl => ?_)
  refine lv_iload_n E.1 E.2.1 dX4_ofRoute_21 rfl (lv_at hl 3 rfl) ?_
  have hsw : j = 2 ∨ j = 3 := by omega
  rcases hsw with rfl | rfl
  · refine lv_tableIn (tgt := 62) E.1 E.2.1 dX4_ofRoute_22 (by decide) (by decide) (by rfl) (by decide) ?_
    refine lv_aload_n E.1 E.2.1 dX4_ofRoute_62 rfl (lv_at hl 0 rfl) ?_
    refine g_rt (v := .int (S 23 (x.toNatClampNeg) 0)) E hP hV (show 0 < 2 by decide) (vp_lt hin_19) 3 (by decide) gw_110 rfl dX4_ofRoute_63 ?_
    exact e_iP E hr hlk (by rfl) dX4_ofRoute_66
  · refine lv_tableIn (tgt := 67) E.1 E.2.1 dX4_ofRoute_22 (by decide) (by decide) (by rfl) (by decide) ?_
    refine lv_aload_n E.1 E.2.1 dX4_ofRoute_67 rfl (lv_at hl 0 rfl) ?_
    refine g_rt (v := .int (S 22 (x.toNatClampNeg) 0)) E hP hV (show 0 < 2 by decide) (vp_lt hin_19) 2 (by decide) gw_111 rfl dX4_ofRoute_68 ?_
    refine go_Pi (run_S (rest := []) E hml hl.1 (c_X4_oneIf l (V := V) (S 22 (x.toNatClampNeg) 0)) k_X4_oneIf ⟨rfl, rfl, Nat.le_of_ble_eq_true rfl, Nat.le_of_ble_eq_true rfl⟩ gw_116 gw_117 hP  rfl rfl (Nat.le_of_ble_eq_true rfl) ⟨Nat.zero_le _, Nat.zero_le _⟩ dX4_ofRoute_71) ?_
    exact e_iP E hr hlk (by rfl) dX4_ofRoute_74

abbrev rm_X4_ofTrain : Room := { frames := 2, cells := 0, slots := 0, locals := 43 }
theorem k_X4_ofTrain : Card yX4_ofTrain cX4_ofTrain 4 (some .int) 2 := ⟨gw_286, gw_2, by decide +kernel, by decide +kernel⟩
set_option maxHeartbeats 4000000 in
set_option maxRecDepth 20000 in
theorem c_X4_ofTrain (l : Launch) {Z : Gm} {V : Nat → St} {S : St} (hV : V 0 = S) (x : Int32) (h0 : ¬ x < 0) (h1 : x < S 6 0 0) (j : Nat) (hj : j ≤ 12) (hL : Lim S) : Met l yX4_ofTrain (.code yX4_ofTrain cX4_ofTrain 4 (some .int) :: gG) rm_X4_ofTrain (PW Z V [.ref (ad Z 0), .int x, .int (nI j)]) (QP (some (.int (trainQ S x.toNatClampNeg j)))) 0 0 (fun _ => False) := by
  refine met_of (by decide +kernel) (Nat.le_of_ble_eq_true rfl) ?_
  intro p e s m args below meth c ls E hr hlk hml hP hl
  have E : EE Z p s m args c cX4_ofTrain RX4 := E
  have hl : lv_has ls 4 [(0, .ref (ad Z 0)), (1, .int x), (2, .int (nI j))] := hl
  have hT := hL.2.2
  have hR := hL.2.1
  have hB := hL.1
  refine lv_aload_n E.1 E.2.1 dX4_ofTrain_0 rfl (lv_at hl 0 rfl) ?_
  refine lv_iload_n E.1 E.2.1 dX4_ofTrain_1 rfl (lv_at hl 1 rfl) ?_
  refine go_Pv (run_V (rest := []) E hml hl.1 (c_X4_needTrain l  hV x h0 h1) k_X4_needTrain ⟨rfl, rfl, Nat.le_of_ble_eq_true rfl, Nat.le_of_ble_eq_true rfl⟩ gw_193 gw_194 gw_195 hP (rv_bay E hP) rfl rfl (Nat.le_of_ble_eq_true rfl) ⟨Nat.zero_le _, Nat.zero_le _⟩ dX4_ofTrain_2) ?_
  refine lv_iload_n E.1 E.2.1 dX4_ofTrain_5 rfl (lv_at hl 2 rfl) ?_
  refine lv_iconst (v := 0) E.1 E.2.1 dX4_ofTrain_6 (by decide) ?_
  refine lv_bipush (v := 12) E.1 E.2.1 dX4_ofTrain_7 (by decide) ?_
  refine go_Pv (run_S (rest := []) E hml hl.1 (c_X4_needWithin l (V := V) (nI j) 0 12 (nI_lt0 (by omega)) (nI_le (b := 12) (by omega) (by omega))) k_X4_needWithin ⟨rfl, rfl, Nat.le_of_ble_eq_true rfl, Nat.le_of_ble_eq_true rfl⟩ gw_69 gw_70 hP  rfl rfl (Nat.le_of_ble_eq_true rfl) ⟨Nat.zero_le _, Nat.zero_le _⟩ dX4_ofTrain_9) ?_
  refine lv_aload_n E.1 E.2.1 dX4_ofTrain_12 rfl (lv_at hl 0 rfl) ?_
  refine g_bay E hP 0 (by decide) gw_13 dX4_ofTrain_13 ?_
  refine g_ln E hP hV (show 0 < 2 by decide) 5 (by decide) gw_171 rfl dX4_ofTrain_16 ?_
  refine lv_iload_n E.1 E.2.1 dX4_ofTrain_19 rfl (lv_at hl 1 rfl) ?_
  have hin_20 : vp_in x 8 := vinL h0 h1 (clamp_le hT)
  refine a_tr (k := (x.toNatClampNeg)) E hP (show 0 < 2 by decide) rfl hin_20 dX4_ofTrain_20 ?_
  refine lv_astore_n (lv' := [(3, .ref (ad Z (cTr 0 (x.toNatClampNeg)))), (0, .ref (ad Z 0)), (1, .int x), (2, .int (nI j))]) E.1 E.2.1 dX4_ofTrain_21 rfl hl (by decide) rfl (fun ls hl => ?_)
  refine lv_iload_n E.1 E.2.1 dX4_ofTrain_22 rfl (lv_at hl 3 rfl) ?_
  have hsw : j = 0 ∨ j = 1 ∨ j = 2 ∨ j = 3 ∨ j = 4 ∨ j = 5 ∨ j = 6 ∨ j = 7 ∨ j = 8 ∨ j = 9 ∨ j = 10 ∨ j = 11 ∨ j = 12 := by omega
  rcases hsw with rfl | rfl | rfl | rfl | rfl | rfl | rfl | rfl | rfl | rfl | rfl | rfl | rfl
  · refine lv_tableIn (tgt := 84) E.1 E.2.1 dX4_ofTrain_23 (by decide) (by decide) (by rfl) (by decide) ?_
    refine lv_aload_n E.1 E.2.1 dX4_ofTrain_84 rfl (lv_at hl 0 rfl) ?_
    refine g_tr (v := .int (S 30 (x.toNatClampNeg) 0)) E hP hV (show 0 < 2 by decide) (vp_lt hin_20) 0 (by decide) gw_172 rfl dX4_ofTrain_85 ?_
    exact e_iP E hr hlk (by rfl) dX4_ofTrain_88
  · refine lv_tableIn (tgt := 89) E.1 E.2.1 dX4_ofTrain_23 (by decide) (by decide) (by rfl) (by decide) ?_
    refine lv_aload_n E.1 E.2.1 dX4_ofTrain_89 rfl (lv_at hl 0 rfl) ?_
    refine g_tr (v := .int (S 31 (x.toNatClampNeg) 0)) E hP hV (show 0 < 2 by decide) (vp_lt hin_20) 1 (by decide) gw_173 rfl dX4_ofTrain_90 ?_
    exact e_iP E hr hlk (by rfl) dX4_ofTrain_93
  · refine lv_tableIn (tgt := 94) E.1 E.2.1 dX4_ofTrain_23 (by decide) (by decide) (by rfl) (by decide) ?_
    refine lv_aload_n E.1 E.2.1 dX4_ofTrain_94 rfl (lv_at hl 0 rfl) ?_
    refine g_tr (v := .int (S 32 (x.toNatClampNeg) 0)) E hP hV (show 0 < 2 by decide) (vp_lt hin_20) 2 (by decide) gw_192 rfl dX4_ofTrain_95 ?_
    exact e_iP E hr hlk (by rfl) dX4_ofTrain_98
  · refine lv_tableIn (tgt := 99) E.1 E.2.1 dX4_ofTrain_23 (by decide) (by decide) (by rfl) (by decide) ?_
    refine lv_aload_n E.1 E.2.1 dX4_ofTrain_99 rfl (lv_at hl 0 rfl) ?_
    refine g_tr (v := .int (S 35 (x.toNatClampNeg) 0)) E hP hV (show 0 < 2 by decide) (vp_lt hin_20) 5 (by decide) gw_287 rfl dX4_ofTrain_100 ?_
    exact e_iP E hr hlk (by rfl) dX4_ofTrain_103
  · refine lv_tableIn (tgt := 104) E.1 E.2.1 dX4_ofTrain_23 (by decide) (by decide) (by rfl) (by decide) ?_
    refine lv_aload_n E.1 E.2.1 dX4_ofTrain_104 rfl (lv_at hl 0 rfl) ?_
    refine g_tr (v := .int (S 36 (x.toNatClampNeg) 0)) E hP hV (show 0 < 2 by decide) (vp_lt hin_20) 6 (by decide) gw_174 rfl dX4_ofTrain_105 ?_
    exact e_iP E hr hlk (by rfl) dX4_ofTrain_108
  · refine lv_tableIn (tgt := 109) E.1 E.2.1 dX4_ofTrain_23 (by decide) (by decide) (by rfl) (by decide) ?_
    refine lv_aload_n E.1 E.2.1 dX4_ofTrain_109 rfl (lv_at hl 1 rfl) ?_
    refine g_bay E hP 0 (by decide) gw_13 dX4_ofTrain_110 ?_
    refine lv_aload_n E.1 E.2.1 dX4_ofTrain_113 rfl (lv_at hl 0 rfl) ?_
    refine go_Pi (run_V (rest := []) E hml hl.1 (c_X1_blockUnder l  hV (show 0 < 2 by decide) (vp_lt hin_20) hL) k_X1_blockUnder ⟨rfl, rfl, Nat.le_of_ble_eq_true rfl, Nat.le_of_ble_eq_true rfl⟩ gw_293 gw_294 gw_295 hP (rv_ln E hP (show 0 < 2 by decide)) rfl rfl (Nat.le_of_ble_eq_true rfl) ⟨Nat.zero_le _, Nat.zero_le _⟩ dX4_ofTrain_114) ?_
    exact e_iP E hr hlk (by rfl) dX4_ofTrain_117
  · refine lv_tableIn (tgt := 118) E.1 E.2.1 dX4_ofTrain_23 (by decide) (by decide) (by rfl) (by decide) ?_
    refine lv_aload_n E.1 E.2.1 dX4_ofTrain_118 rfl (lv_at hl 0 rfl) ?_
    refine g_tr (v := .int (S 38 (x.toNatClampNeg) 0)) E hP hV (show 0 < 2 by decide) (vp_lt hin_20) 8 (by decide) gw_288 rfl dX4_ofTrain_119 ?_
    exact e_iP E hr hlk (by rfl) dX4_ofTrain_122
  · refine lv_tableIn (tgt := 123) E.1 E.2.1 dX4_ofTrain_23 (by decide) (by decide) (by rfl) (by decide) ?_
    refine lv_aload_n E.1 E.2.1 dX4_ofTrain_123 rfl (lv_at hl 0 rfl) ?_
    refine g_tr (v := .int (S 40 (x.toNatClampNeg) 0)) E hP hV (show 0 < 2 by decide) (vp_lt hin_20) 10 (by decide) gw_289 rfl dX4_ofTrain_124 ?_
    exact e_iP E hr hlk (by rfl) dX4_ofTrain_127
  · refine lv_tableIn (tgt := 128) E.1 E.2.1 dX4_ofTrain_23 (by decide) (by decide) (by rfl) (by decide) ?_
    refine lv_aload_n E.1 E.2.1 dX4_ofTrain_128 rfl (lv_at hl 0 rfl) ?_
    refine g_tr (v := .int (S 42 (x.toNatClampNeg) 0)) E hP hV (show 0 < 2 by decide) (vp_lt hin_20) 12 (by decide) gw_290 rfl dX4_ofTrain_129 ?_
    exact e_iP E hr hlk (by rfl) dX4_ofTrain_132
  · refine lv_tableIn (tgt := 133) E.1 E.2.1 dX4_ofTrain_23 (by decide) (by decide) (by rfl) (by decide) ?_
    refine lv_aload_n E.1 E.2.1 dX4_ofTrain_133 rfl (lv_at hl 0 rfl) ?_
    refine g_tr (v := .int (S 43 (x.toNatClampNeg) 0)) E hP hV (show 0 < 2 by decide) (vp_lt hin_20) 13 (by decide) gw_291 rfl dX4_ofTrain_134 ?_
    exact e_iP E hr hlk (by rfl) dX4_ofTrain_137
  · refine lv_tableIn (tgt := 138) E.1 E.2.1 dX4_ofTrain_23 (by decide) (by decide) (by rfl) (by decide) ?_
    refine lv_aload_n E.1 E.2.1 dX4_ofTrain_138 rfl (lv_at hl 1 rfl) ?_
    refine g_bay E hP 0 (by decide) gw_13 dX4_ofTrain_139 ?_
    refine lv_aload_n E.1 E.2.1 dX4_ofTrain_142 rfl (lv_at hl 0 rfl) ?_
    refine go_Pi (run_V (rest := []) E hml hl.1 (c_X1_isReady l  hV (show 0 < 2 by decide) (vp_lt hin_20)) k_X1_isReady ⟨rfl, rfl, Nat.le_of_ble_eq_true rfl, Nat.le_of_ble_eq_true rfl⟩ gw_298 gw_299 gw_300 hP (rv_ln E hP (show 0 < 2 by decide)) rfl rfl (Nat.le_of_ble_eq_true rfl) ⟨Nat.zero_le _, Nat.zero_le _⟩ dX4_ofTrain_143) ?_
    refine go_Pi (run_S (rest := []) E hml hl.1 (c_X4_oneIf l (V := V) (b2i (readyF S (x.toNatClampNeg)))) k_X4_oneIf ⟨rfl, rfl, Nat.le_of_ble_eq_true rfl, Nat.le_of_ble_eq_true rfl⟩ gw_116 gw_117 hP  rfl rfl (Nat.le_of_ble_eq_true rfl) ⟨Nat.zero_le _, Nat.zero_le _⟩ dX4_ofTrain_146) ?_
    exact e_iP E hr hlk (by rfl) dX4_ofTrain_149
  · refine lv_tableIn (tgt := 150) E.1 E.2.1 dX4_ofTrain_23 (by decide) (by decide) (by rfl) (by decide) ?_
    refine lv_aload_n E.1 E.2.1 dX4_ofTrain_150 rfl (lv_at hl 0 rfl) ?_
    refine go_Pi (run_V (rest := []) E hml hl.1 (c_X3_isAtEndOfBlock l  hV (show 0 < 2 by decide) (vp_lt hin_20)) k_X3_isAtEndOfBlock ⟨rfl, rfl, Nat.le_of_ble_eq_true rfl, Nat.le_of_ble_eq_true rfl⟩ gw_311 gw_312 gw_313 hP (rv_tr E hP (show 0 < 2 by decide) (vp_lt hin_20)) rfl rfl (Nat.le_of_ble_eq_true rfl) ⟨Nat.zero_le _, Nat.zero_le _⟩ dX4_ofTrain_151) ?_
    refine go_Pi (run_S (rest := []) E hml hl.1 (c_X4_oneIf l (V := V) (b2i (atEndF S (x.toNatClampNeg)))) k_X4_oneIf ⟨rfl, rfl, Nat.le_of_ble_eq_true rfl, Nat.le_of_ble_eq_true rfl⟩ gw_116 gw_117 hP  rfl rfl (Nat.le_of_ble_eq_true rfl) ⟨Nat.zero_le _, Nat.zero_le _⟩ dX4_ofTrain_154) ?_
    exact e_iP E hr hlk (by rfl) dX4_ofTrain_157
  · refine lv_tableOut (tgt := 158) E.1 E.2.1 dX4_ofTrain_23 (by decide) (by decide) ?_
    refine lv_aload_n E.1 E.2.1 dX4_ofTrain_158 rfl (lv_at hl 1 rfl) ?_
    refine g_bay E hP 0 (by decide) gw_13 dX4_ofTrain_159 ?_
    refine lv_aload_n E.1 E.2.1 dX4_ofTrain_162 rfl (lv_at hl 0 rfl) ?_
    refine g_tr (v := .int (S 41 (x.toNatClampNeg) 0)) E hP hV (show 0 < 2 by decide) (vp_lt hin_20) 11 (by decide) gw_292 rfl dX4_ofTrain_163 ?_
    refine go_Pi (run_V (rest := []) E hml hl.1 (c_X1_tillOrNone l  hV (show 0 < 2 by decide) (S 41 (x.toNatClampNeg) 0)) k_X1_tillOrNone ⟨rfl, rfl, Nat.le_of_ble_eq_true rfl, Nat.le_of_ble_eq_true rfl⟩ gw_274 gw_275 gw_276 hP (rv_ln E hP (show 0 < 2 by decide)) rfl rfl (Nat.le_of_ble_eq_true rfl) ⟨Nat.zero_le _, Nat.zero_le _⟩ dX4_ofTrain_166) ?_
    exact e_iP E hr hlk (by rfl) dX4_ofTrain_169

abbrev rm_X4_plan : Room := { frames := 2, cells := 0, slots := 0, locals := 42 }
theorem k_X4_plan : Card yX4_plan cX4_plan 5 (some .int) 3 := ⟨gw_191, gw_2, by decide +kernel, by decide +kernel⟩
set_option maxHeartbeats 4000000 in
set_option maxRecDepth 20000 in
theorem c_X4_plan (l : Launch) {Z : Gm} {V : Nat → St} {S : St} (hV : V 0 = S) (x : Int32) (h0 : ¬ x < 0) (h1 : x < S 6 0 0) (q : Int32) (q0 : ¬ q < 0) (q1 : q < S 32 x.toNatClampNeg 0) (z : Int32) (hL : Lim S) : Met l yX4_plan (.code yX4_plan cX4_plan 5 (some .int) :: gG) rm_X4_plan (PW Z V [.ref (ad Z 0), .int x, .int q, .int z]) (QP (some (.int (planF S x.toNatClampNeg q z)))) 0 0 (fun _ => False) := by
  refine met_of (by decide +kernel) (Nat.le_of_ble_eq_true rfl) ?_
  intro p e s m args below meth c ls E hr hlk hml hP hl
  have E : EE Z p s m args c cX4_plan RX4 := E
  have hl : lv_has ls 5 [(0, .ref (ad Z 0)), (1, .int x), (2, .int q), (3, .int z)] := hl
  have hT := hL.2.2
  have hR := hL.2.1
  have hB := hL.1
  refine lv_aload_n E.1 E.2.1 dX4_plan_0 rfl (lv_at hl 0 rfl) ?_
  refine lv_iload_n E.1 E.2.1 dX4_plan_1 rfl (lv_at hl 1 rfl) ?_
  refine go_Pv (run_V (rest := []) E hml hl.1 (c_X4_needTrain l  hV x h0 h1) k_X4_needTrain ⟨rfl, rfl, Nat.le_of_ble_eq_true rfl, Nat.le_of_ble_eq_true rfl⟩ gw_193 gw_194 gw_195 hP (rv_bay E hP) rfl rfl (Nat.le_of_ble_eq_true rfl) ⟨Nat.zero_le _, Nat.zero_le _⟩ dX4_plan_2) ?_
  refine lv_aload_n E.1 E.2.1 dX4_plan_5 rfl (lv_at hl 0 rfl) ?_
  refine g_bay E hP 0 (by decide) gw_13 dX4_plan_6 ?_
  refine g_ln E hP hV (show 0 < 2 by decide) 5 (by decide) gw_171 rfl dX4_plan_9 ?_
  refine lv_iload_n E.1 E.2.1 dX4_plan_12 rfl (lv_at hl 1 rfl) ?_
  have hin_13 : vp_in x 8 := vinL h0 h1 (clamp_le hT)
  refine a_tr (k := (x.toNatClampNeg)) E hP (show 0 < 2 by decide) rfl hin_13 dX4_plan_13 ?_
  refine lv_astore (lv' := [(4, .ref (ad Z (cTr 0 (x.toNatClampNeg)))), (0, .ref (ad Z 0)), (1, .int x), (2, .int q), (3, .int z)]) E.1 E.2.1 dX4_plan_14 hl (by decide) rfl (fun ls hl => ?_)
  refine lv_iload_n E.1 E.2.1 dX4_plan_16 rfl (lv_at hl 3 rfl) ?_
  refine lv_aload E.1 E.2.1 dX4_plan_17 (lv_at hl 0 rfl) ?_
  refine g_tr (v := .int (S 32 (x.toNatClampNeg) 0)) E hP hV (show 0 < 2 by decide) (vp_lt hin_13) 2 (by decide) gw_192 rfl dX4_plan_19 ?_
  refine go_Pv (run_S (rest := []) E hml hl.1 (c_X4_needNumber l (V := V) q (S 32 (x.toNatClampNeg) 0) q0 q1) k_X4_needNumber ⟨rfl, rfl, Nat.le_of_ble_eq_true rfl, Nat.le_of_ble_eq_true rfl⟩ gw_83 gw_84 hP  rfl rfl (Nat.le_of_ble_eq_true rfl) ⟨Nat.zero_le _, Nat.zero_le _⟩ dX4_plan_22) ?_
  refine lv_iload_n E.1 E.2.1 dX4_plan_25 rfl (lv_at hl 4 rfl) ?_
  refine lv_if_eq (tgt := 38) E.1 E.2.1 dX4_plan_26 (by decide) (fun c_26 => ?_) (fun c_26 => ?_)
  · refine lv_aload E.1 E.2.1 dX4_plan_38 (lv_at hl 0 rfl) ?_
    refine lv_iload_n E.1 E.2.1 dX4_plan_40 rfl (lv_at hl 3 rfl) ?_
    refine go_Pi (run_V (rest := []) E hml hl.1 (c_X3_stationOf l  hV (show 0 < 2 by decide) (vp_lt hin_13) q) k_X3_stationOf ⟨rfl, rfl, Nat.le_of_ble_eq_true rfl, Nat.le_of_ble_eq_true rfl⟩ gw_201 gw_202 gw_203 hP (rv_tr E hP (show 0 < 2 by decide) (vp_lt hin_13)) rfl rfl (Nat.le_of_ble_eq_true rfl) ⟨Nat.zero_le _, Nat.zero_le _⟩ dX4_plan_41) ?_
    exact e_iP E hr hlk (by simp [planF, c_26]) dX4_plan_44
  · refine lv_aload E.1 E.2.1 dX4_plan_29 (lv_at hl 0 rfl) ?_
    refine lv_iload_n E.1 E.2.1 dX4_plan_31 rfl (lv_at hl 3 rfl) ?_
    refine go_Pi (run_V (rest := []) E hml hl.1 (c_X3_timeOf l  hV (show 0 < 2 by decide) (vp_lt hin_13) q) k_X3_timeOf ⟨rfl, rfl, Nat.le_of_ble_eq_true rfl, Nat.le_of_ble_eq_true rfl⟩ gw_197 gw_198 gw_199 hP (rv_tr E hP (show 0 < 2 by decide) (vp_lt hin_13)) rfl rfl (Nat.le_of_ble_eq_true rfl) ⟨Nat.zero_le _, Nat.zero_le _⟩ dX4_plan_32) ?_
    refine lv_goto (tgt := 44) E.1 E.2.1 dX4_plan_35 (by decide) ?_
    exact e_iP E hr hlk (by simp [planF, c_26]) dX4_plan_44

abbrev rm_X4_waitedFor : Room := { frames := 2, cells := 0, slots := 0, locals := 42 }
theorem k_X4_waitedFor : Card yX4_waitedFor cX4_waitedFor 3 (some .int) 2 := ⟨gw_329, gw_2, by decide +kernel, by decide +kernel⟩
set_option maxHeartbeats 4000000 in
set_option maxRecDepth 20000 in
theorem c_X4_waitedFor (l : Launch) {Z : Gm} {V : Nat → St} {S : St} (hV : V 0 = S) (x : Int32) (h0 : ¬ x < 0) (h1 : x < S 6 0 0) (o : Int32) (o0 : ¬ o < 0) (o1 : o < S 6 0 0) (hL : Lim S) : Met l yX4_waitedFor (.code yX4_waitedFor cX4_waitedFor 3 (some .int) :: gG) rm_X4_waitedFor (PW Z V [.ref (ad Z 0), .int x, .int o]) (QP (some (.int (S 45 x.toNatClampNeg o.toNatClampNeg)))) 0 0 (fun _ => False) := by
  refine met_of (by decide +kernel) (Nat.le_of_ble_eq_true rfl) ?_
  intro p e s m args below meth c ls E hr hlk hml hP hl
  have E : EE Z p s m args c cX4_waitedFor RX4 := E
  have hl : lv_has ls 3 [(0, .ref (ad Z 0)), (1, .int x), (2, .int o)] := hl
  have hT := hL.2.2
  have hR := hL.2.1
  have hB := hL.1
  refine lv_aload_n E.1 E.2.1 dX4_waitedFor_0 rfl (lv_at hl 0 rfl) ?_
  refine lv_iload_n E.1 E.2.1 dX4_waitedFor_1 rfl (lv_at hl 1 rfl) ?_
  refine go_Pv (run_V (rest := []) E hml hl.1 (c_X4_needTrain l  hV x h0 h1) k_X4_needTrain ⟨rfl, rfl, Nat.le_of_ble_eq_true rfl, Nat.le_of_ble_eq_true rfl⟩ gw_193 gw_194 gw_195 hP (rv_bay E hP) rfl rfl (Nat.le_of_ble_eq_true rfl) ⟨Nat.zero_le _, Nat.zero_le _⟩ dX4_waitedFor_2) ?_
  refine lv_aload_n E.1 E.2.1 dX4_waitedFor_5 rfl (lv_at hl 0 rfl) ?_
  refine lv_iload_n E.1 E.2.1 dX4_waitedFor_6 rfl (lv_at hl 2 rfl) ?_
  refine go_Pv (run_V (rest := []) E hml hl.1 (c_X4_needTrain l  hV o o0 o1) k_X4_needTrain ⟨rfl, rfl, Nat.le_of_ble_eq_true rfl, Nat.le_of_ble_eq_true rfl⟩ gw_193 gw_194 gw_195 hP (rv_bay E hP) rfl rfl (Nat.le_of_ble_eq_true rfl) ⟨Nat.zero_le _, Nat.zero_le _⟩ dX4_waitedFor_7) ?_
  refine lv_aload_n E.1 E.2.1 dX4_waitedFor_10 rfl (lv_at hl 0 rfl) ?_
  refine g_bay E hP 0 (by decide) gw_13 dX4_waitedFor_11 ?_
  refine g_ln E hP hV (show 0 < 2 by decide) 5 (by decide) gw_171 rfl dX4_waitedFor_14 ?_
  refine lv_iload_n E.1 E.2.1 dX4_waitedFor_17 rfl (lv_at hl 1 rfl) ?_
  have hin_18 : vp_in x 8 := vinL h0 h1 (clamp_le hT)
  refine a_tr (k := (x.toNatClampNeg)) E hP (show 0 < 2 by decide) rfl hin_18 dX4_waitedFor_18 ?_
  refine g_tr E hP hV (show 0 < 2 by decide) (vp_lt hin_18) 15 (by decide) gw_330 rfl dX4_waitedFor_19 ?_
  refine lv_iload_n E.1 E.2.1 dX4_waitedFor_22 rfl (lv_at hl 2 rfl) ?_
  have hin_23 : vp_in o 8 := vinL o0 o1 (clamp_le hT)
  refine i_wf (j := (o.toNatClampNeg)) E hP hV (show 0 < 2 by decide) (vp_lt hin_18) rfl hin_23 dX4_waitedFor_23 ?_
  exact e_iP E hr hlk (by rfl) dX4_waitedFor_24

abbrev rm_X4_waitsFor : Room := { frames := 2, cells := 0, slots := 0, locals := 42 }
theorem k_X4_waitsFor : Card yX4_waitsFor cX4_waitsFor 2 (some .int) 1 := ⟨gw_319, gw_2, by decide +kernel, by decide +kernel⟩
set_option maxHeartbeats 4000000 in
set_option maxRecDepth 20000 in
theorem c_X4_waitsFor (l : Launch) {Z : Gm} {V : Nat → St} {S : St} (hV : V 0 = S) (x : Int32) (h0 : ¬ x < 0) (h1 : x < S 6 0 0) (hL : Lim S) : Met l yX4_waitsFor (.code yX4_waitsFor cX4_waitsFor 2 (some .int) :: gG) rm_X4_waitsFor (PW Z V [.ref (ad Z 0), .int x]) (QP (some (.int (S 44 x.toNatClampNeg 0)))) 0 0 (fun _ => False) := by
  refine met_of (by decide +kernel) (Nat.le_of_ble_eq_true rfl) ?_
  intro p e s m args below meth c ls E hr hlk hml hP hl
  have E : EE Z p s m args c cX4_waitsFor RX4 := E
  have hl : lv_has ls 2 [(0, .ref (ad Z 0)), (1, .int x)] := hl
  have hT := hL.2.2
  have hR := hL.2.1
  have hB := hL.1
  refine lv_aload_n E.1 E.2.1 dX4_waitsFor_0 rfl (lv_at hl 0 rfl) ?_
  refine lv_iload_n E.1 E.2.1 dX4_waitsFor_1 rfl (lv_at hl 1 rfl) ?_
  refine go_Pv (run_V (rest := []) E hml hl.1 (c_X4_needTrain l  hV x h0 h1) k_X4_needTrain ⟨rfl, rfl, Nat.le_of_ble_eq_true rfl, Nat.le_of_ble_eq_true rfl⟩ gw_193 gw_194 gw_195 hP (rv_bay E hP) rfl rfl (Nat.le_of_ble_eq_true rfl) ⟨Nat.zero_le _, Nat.zero_le _⟩ dX4_waitsFor_2) ?_
  refine lv_aload_n E.1 E.2.1 dX4_waitsFor_5 rfl (lv_at hl 0 rfl) ?_
  refine g_bay E hP 0 (by decide) gw_13 dX4_waitsFor_6 ?_
  refine g_ln E hP hV (show 0 < 2 by decide) 5 (by decide) gw_171 rfl dX4_waitsFor_9 ?_
  refine lv_iload_n E.1 E.2.1 dX4_waitsFor_12 rfl (lv_at hl 1 rfl) ?_
  have hin_13 : vp_in x 8 := vinL h0 h1 (clamp_le hT)
  refine a_tr (k := (x.toNatClampNeg)) E hP (show 0 < 2 by decide) rfl hin_13 dX4_waitsFor_13 ?_
  refine g_tr (v := .int (S 44 (x.toNatClampNeg) 0)) E hP hV (show 0 < 2 by decide) (vp_lt hin_13) 14 (by decide) gw_320 rfl dX4_waitsFor_14 ?_
  exact e_iP E hr hlk (by rfl) dX4_waitsFor_17

abbrev rm_X4_isStuck : Room := { frames := 2, cells := 0, slots := 0, locals := 42 }
theorem k_X4_isStuck : Card yX4_isStuck cX4_isStuck 2 (some .boolean) 1 := ⟨gw_324, gw_2, by decide +kernel, by decide +kernel⟩
set_option maxHeartbeats 4000000 in
set_option maxRecDepth 20000 in
theorem c_X4_isStuck (l : Launch) {Z : Gm} {V : Nat → St} {S : St} (hV : V 0 = S) (i : Nat) (hi : i < nT S) (hL : Lim S) : Met l yX4_isStuck (.code yX4_isStuck cX4_isStuck 2 (some .boolean) :: gG) rm_X4_isStuck (PW Z V [.ref (ad Z 0), .int (nI i)]) (QP (some (.int (b2i (stuckF S i))))) 0 0 (fun _ => False) := by
  refine met_of (by decide +kernel) (Nat.le_of_ble_eq_true rfl) ?_
  intro p e s m args below meth c ls E hr hlk hml hP hl
  have E : EE Z p s m args c cX4_isStuck RX4 := E
  have hl : lv_has ls 2 [(0, .ref (ad Z 0)), (1, .int (nI i))] := hl
  have hT := hL.2.2
  have hR := hL.2.1
  have hB := hL.1
  refine lv_aload_n E.1 E.2.1 dX4_isStuck_0 rfl (lv_at hl 0 rfl) ?_
  refine lv_iload_n E.1 E.2.1 dX4_isStuck_1 rfl (lv_at hl 1 rfl) ?_
  refine go_Pv (run_V (rest := []) E hml hl.1 (c_X4_needTrain l  hV (nI i) (nI_lt0 (by omega)) (nI_ltc hi)) k_X4_needTrain ⟨rfl, rfl, Nat.le_of_ble_eq_true rfl, Nat.le_of_ble_eq_true rfl⟩ gw_193 gw_194 gw_195 hP (rv_bay E hP) rfl rfl (Nat.le_of_ble_eq_true rfl) ⟨Nat.zero_le _, Nat.zero_le _⟩ dX4_isStuck_2) ?_
  refine lv_aload_n E.1 E.2.1 dX4_isStuck_5 rfl (lv_at hl 0 rfl) ?_
  refine g_bay E hP 0 (by decide) gw_13 dX4_isStuck_6 ?_
  refine lv_iload_n E.1 E.2.1 dX4_isStuck_9 rfl (lv_at hl 1 rfl) ?_
  refine go_Pi (run_V (rest := []) E hml hl.1 (c_X1_waitsForItself l  hV (show 0 < 2 by decide) i (by omega) hL) k_X1_waitsForItself ⟨rfl, rfl, Nat.le_of_ble_eq_true rfl, Nat.le_of_ble_eq_true rfl⟩ gw_325 gw_262 gw_263 hP (rv_ln E hP (show 0 < 2 by decide)) rfl rfl (Nat.le_of_ble_eq_true rfl) ⟨Nat.zero_le _, Nat.zero_le _⟩ dX4_isStuck_10) ?_
  exact e_zP E hr hlk (by rfl) (b2i_01 _) dX4_isStuck_13

abbrev rm_X4_block : Room := { frames := 1, cells := 0, slots := 0, locals := 22 }
theorem k_X4_block : Card yX4_block cX4_block 3 (some .int) 1 := ⟨gw_63, gw_2, by decide +kernel, by decide +kernel⟩
set_option maxHeartbeats 4000000 in
set_option maxRecDepth 20000 in
theorem c_X4_block (l : Launch) {Z : Gm} (hA : AA Z) {V : Nat → St} {V' : Nat → St} {S : St} (hV : V 0 = S) (x : Int32) (h1 : ¬ x < 1) (h9 : x ≤ 9) (hb0 : ¬ S 2 0 0 < 0) (hb : S 2 0 0 < 16) (hV' : upL V 0 (blockF S x) = V') : Met l yX4_block (.code yX4_block cX4_block 3 (some .int) :: gG) rm_X4_block (PW Z V [.ref (ad Z 0), .int x]) (QX Z (some (.int (S 2 0 0))) V') 0 0 (inW Z) := by
  refine met_of (by decide +kernel) (Nat.le_of_ble_eq_true rfl) ?_
  intro p e s m args below meth c ls E hr hlk hml hP hl
  have E : EE Z p s m args c cX4_block RX4 := E
  have hl : lv_has ls 3 [(0, .ref (ad Z 0)), (1, .int x)] := hl
  have hS : va_S (inW Z) s.heap s.heap [] := va_S.rf
  refine lv_iload_n E.1 E.2.1 dX4_block_0 rfl (lv_at hl 1 rfl) ?_
  refine lv_iconst (v := 1) E.1 E.2.1 dX4_block_1 (by decide) ?_
  refine lv_bipush (v := 9) E.1 E.2.1 dX4_block_2 (by decide) ?_
  refine go_Pv (run_S (rest := []) E hml hl.1 (c_X4_needWithin l (V := V) x 1 9 h1 h9) k_X4_needWithin ⟨rfl, rfl, Nat.le_of_ble_eq_true rfl, Nat.le_of_ble_eq_true rfl⟩ gw_69 gw_70 hP  rfl rfl (Nat.le_of_ble_eq_true rfl) ⟨Nat.zero_le _, Nat.zero_le _⟩ dX4_block_4) ?_
  refine lv_aload_n E.1 E.2.1 dX4_block_7 rfl (lv_at hl 0 rfl) ?_
  refine g_bay E hP 0 (by decide) gw_13 dX4_block_8 ?_
  refine g_ln (v := .int (S 2 0 0)) E hP hV (show 0 < 2 by decide) 2 (by decide) gw_66 rfl dX4_block_11 ?_
  refine lv_bipush (v := 16) E.1 E.2.1 dX4_block_14 (by decide) ?_
  refine lv_icmp_lt (tgt := 29) E.1 E.2.1 dX4_block_16 (by decide) (fun c_16 => ?_) (fun c_16 => ?_)
  · refine lv_aload_n E.1 E.2.1 dX4_block_29 rfl (lv_at hl 0 rfl) ?_
    refine g_bay E hP 0 (by decide) gw_13 dX4_block_30 ?_
    refine g_ln (v := .int (S 2 0 0)) E hP hV (show 0 < 2 by decide) 2 (by decide) gw_66 rfl dX4_block_33 ?_
    refine lv_istore_n (lv' := [(2, .int (S 2 0 0)), (0, .ref (ad Z 0)), (1, .int x)]) E.1 E.2.1 dX4_block_36 rfl hl (by decide) rfl (fun ls hl => ?_)
    refine lv_aload_n E.1 E.2.1 dX4_block_37 rfl (lv_at hl 1 rfl) ?_
    refine g_bay E hP 0 (by decide) gw_13 dX4_block_38 ?_
    refine g_ln E hP hV (show 0 < 2 by decide) 1 (by decide) gw_67 rfl dX4_block_41 ?_
    refine lv_iload_n E.1 E.2.1 dX4_block_44 rfl (lv_at hl 0 rfl) ?_
    have hin_45 : vp_in (S 2 0 0) 16 := vinL hb0 hb (by decide)
    refine a_bk (k := ((S 2 0 0).toNatClampNeg)) E hP (show 0 < 2 by decide) rfl hin_45 dX4_block_45 ?_
    refine lv_iload_n E.1 E.2.1 dX4_block_46 rfl (lv_at hl 2 rfl) ?_
    refine p_bk E hP hA hS hV (show 0 < 2 by decide) (vp_lt hin_45) 0 (by decide) gw_68 (V' := upL V 0 (up S 10 ((S 2 0 0).toNatClampNeg) 0 x)) rfl dX4_block_47 (fun H locs hP hS => ?_)
    refine lv_aload_n E.1 E.2.1 dX4_block_50 rfl (lv_at hl 1 rfl) ?_
    refine g_bay E hP 0 (by decide) gw_13 dX4_block_51 ?_
    refine lv_iload_n E.1 E.2.1 dX4_block_54 rfl (lv_at hl 0 rfl) ?_
    refine lv_iconst (v := 1) E.1 E.2.1 dX4_block_55 (by decide) ?_
    refine lv_iadd E.1 E.2.1 dX4_block_56 ?_
    refine p_ln E hP hA hS (upL_same V 0 (up S 10 ((S 2 0 0).toNatClampNeg) 0 x)) (show 0 < 2 by decide) 2 (by decide) gw_66 (V' := upL V 0 (up (up S 10 ((S 2 0 0).toNatClampNeg) 0 x) 2 0 0 ((S 2 0 0) + 1))) (upL_upL V 0 _ _) dX4_block_57 (fun H locs hP hS => ?_)
    refine lv_iload_n E.1 E.2.1 dX4_block_60 rfl (lv_at hl 0 rfl) ?_
    exact e_iX E hr hlk hP hS (fin1 hV' (by rfl)) rfl dX4_block_61
  · exact absurd hb c_16

abbrev rm_X4_route : Room := { frames := 2, cells := 0, slots := 0, locals := 42 }
theorem k_X4_route : Card yX4_route cX4_route 6 (some .int) 4 := ⟨gw_77, gw_2, by decide +kernel, by decide +kernel⟩
set_option maxHeartbeats 4000000 in
set_option maxRecDepth 20000 in
theorem c_X4_route (l : Launch) {Z : Gm} (hA : AA Z) {V : Nat → St} {V' : Nat → St} {S : St} (hV : V 0 = S) (a b x z : Int32) (a0 : ¬ a < 0) (a6 : a < 6) (b0 : ¬ b < 0) (b6 : b < 6) (h0 : ¬ x < 0) (h1 : x < S 2 0 0) (hab : ¬ a = b) (hz : z = 0 ∨ z = 1) (hr0 : ¬ S 4 0 0 < 0) (hrc : S 4 0 0 < 16) (hV' : upL V 0 (routeF S a b x z) = V') : Met l yX4_route (.code yX4_route cX4_route 6 (some .int) :: gG) rm_X4_route (PW Z V [.ref (ad Z 0), .int a, .int b, .int x, .int z]) (QX Z (some (.int (S 4 0 0))) V') 0 0 (inW Z) := by
  refine met_of (by decide +kernel) (Nat.le_of_ble_eq_true rfl) ?_
  intro p e s m args below meth c ls E hr hlk hml hP hl
  have E : EE Z p s m args c cX4_route RX4 := E
  have hl : lv_has ls 6 [(0, .ref (ad Z 0)), (1, .int a), (2, .int b), (3, .int x), (4, .int z)] := hl
  have hS : va_S (inW Z) s.heap s.heap [] := va_S.rf
  refine lv_iload_n E.1 E.2.1 dX4_route_0 rfl (lv_at hl 1 rfl) ?_
  refine go_Pv (run_S (rest := []) E hml hl.1 (c_X4_needStation l (V := V) a a0 a6) k_X4_needStation ⟨rfl, rfl, Nat.le_of_ble_eq_true rfl, Nat.le_of_ble_eq_true rfl⟩ gw_80 gw_81 hP  rfl rfl (Nat.le_of_ble_eq_true rfl) ⟨Nat.zero_le _, Nat.zero_le _⟩ dX4_route_1) ?_
  refine lv_iload_n E.1 E.2.1 dX4_route_4 rfl (lv_at hl 2 rfl) ?_
  refine go_Pv (run_S (rest := []) E hml hl.1 (c_X4_needStation l (V := V) b b0 b6) k_X4_needStation ⟨rfl, rfl, Nat.le_of_ble_eq_true rfl, Nat.le_of_ble_eq_true rfl⟩ gw_80 gw_81 hP  rfl rfl (Nat.le_of_ble_eq_true rfl) ⟨Nat.zero_le _, Nat.zero_le _⟩ dX4_route_5) ?_
  refine lv_aload_n E.1 E.2.1 dX4_route_8 rfl (lv_at hl 0 rfl) ?_
  refine lv_iload_n E.1 E.2.1 dX4_route_9 rfl (lv_at hl 3 rfl) ?_
  refine go_Pv (run_V (rest := []) E hml hl.1 (c_X4_needBlock l  hV x h0 h1) k_X4_needBlock ⟨rfl, rfl, Nat.le_of_ble_eq_true rfl, Nat.le_of_ble_eq_true rfl⟩ gw_88 gw_89 gw_90 hP (rv_bay E hP) rfl rfl (Nat.le_of_ble_eq_true rfl) ⟨Nat.zero_le _, Nat.zero_le _⟩ dX4_route_10) ?_
  refine lv_iload_n E.1 E.2.1 dX4_route_13 rfl (lv_at hl 1 rfl) ?_
  refine lv_iload_n E.1 E.2.1 dX4_route_14 rfl (lv_at hl 2 rfl) ?_
  refine lv_icmp_ne (tgt := 28) E.1 E.2.1 dX4_route_15 (by decide) (fun c_15 => ?_) (fun c_15 => ?_)
  · refine lv_aload_n E.1 E.2.1 dX4_route_28 rfl (lv_at hl 0 rfl) ?_
    refine g_bay E hP 0 (by decide) gw_13 dX4_route_29 ?_
    refine g_ln (v := .int (S 4 0 0)) E hP hV (show 0 < 2 by decide) 4 (by decide) gw_78 rfl dX4_route_32 ?_
    refine lv_bipush (v := 16) E.1 E.2.1 dX4_route_35 (by decide) ?_
    refine lv_icmp_lt (tgt := 50) E.1 E.2.1 dX4_route_37 (by decide) (fun c_37 => ?_) (fun c_37 => ?_)
    · refine lv_aload_n E.1 E.2.1 dX4_route_50 rfl (lv_at hl 0 rfl) ?_
      refine g_bay E hP 0 (by decide) gw_13 dX4_route_51 ?_
      refine g_ln (v := .int (S 4 0 0)) E hP hV (show 0 < 2 by decide) 4 (by decide) gw_78 rfl dX4_route_54 ?_
      refine lv_istore (lv' := [(5, .int (S 4 0 0)), (0, .ref (ad Z 0)), (1, .int a), (2, .int b), (3, .int x), (4, .int z)]) E.1 E.2.1 dX4_route_57 hl (by decide) rfl (fun ls hl => ?_)
      refine lv_aload_n E.1 E.2.1 dX4_route_59 rfl (lv_at hl 1 rfl) ?_
      refine g_bay E hP 0 (by decide) gw_13 dX4_route_60 ?_
      refine g_ln E hP hV (show 0 < 2 by decide) 3 (by decide) gw_79 rfl dX4_route_63 ?_
      refine lv_iload E.1 E.2.1 dX4_route_66 (lv_at hl 0 rfl) ?_
      have hin_68 : vp_in (S 4 0 0) 16 := vinL hr0 hrc (by decide)
      refine a_rt (k := ((S 4 0 0).toNatClampNeg)) E hP (show 0 < 2 by decide) rfl hin_68 dX4_route_68 ?_
      refine lv_iload_n E.1 E.2.1 dX4_route_69 rfl (lv_at hl 2 rfl) ?_
      refine lv_iload_n E.1 E.2.1 dX4_route_70 rfl (lv_at hl 3 rfl) ?_
      refine lv_iload E.1 E.2.1 dX4_route_71 (lv_at hl 5 rfl) ?_
      refine go_Xv (run_V (rest := []) E hml hl.1 (c_X2_lay l hA (V' := upL V 0 (layF S ((S 4 0 0).toNatClampNeg) a b z)) hV (show 0 < 2 by decide) (vp_lt hin_68) a b z hz rfl) k_X2_lay ⟨rfl, rfl, Nat.le_of_ble_eq_true rfl, Nat.le_of_ble_eq_true rfl⟩ gw_92 gw_93 gw_94 hP (rv_rt E hP (show 0 < 2 by decide) (vp_lt hin_68)) rfl rfl (Nat.le_of_ble_eq_true rfl) ⟨Nat.zero_le _, Nat.zero_le _⟩ dX4_route_73) hS (fun H locs hP hS => ?_)
      refine lv_aload_n E.1 E.2.1 dX4_route_76 rfl (lv_at hl 1 rfl) ?_
      refine g_bay E hP 0 (by decide) gw_13 dX4_route_77 ?_
      refine g_ln E hP (upL_same V 0 (layF S ((S 4 0 0).toNatClampNeg) a b z)) (show 0 < 2 by decide) 3 (by decide) gw_79 rfl dX4_route_80 ?_
      refine lv_iload E.1 E.2.1 dX4_route_83 (lv_at hl 0 rfl) ?_
      have hin_85 : vp_in (S 4 0 0) 16 := vinL hr0 hrc (by decide)
      refine a_rt (k := ((S 4 0 0).toNatClampNeg)) E hP (show 0 < 2 by decide) rfl hin_85 dX4_route_85 ?_
      refine lv_iload_n E.1 E.2.1 dX4_route_86 rfl (lv_at hl 4 rfl) ?_
      refine go_Xv (run_V (rest := []) E hml hl.1 (c_X2_addBlock l hA (V' := upL V 0 (addBlockF (layF S ((S 4 0 0).toNatClampNeg) a b z) ((S 4 0 0).toNatClampNeg) x)) (upL_same V 0 (layF S ((S 4 0 0).toNatClampNeg) a b z)) (show 0 < 2 by decide) (vp_lt hin_85) x (upL_upL V 0 _ _)) k_X2_addBlock ⟨rfl, rfl, Nat.le_of_ble_eq_true rfl, Nat.le_of_ble_eq_true rfl⟩ gw_100 gw_101 gw_102 hP (rv_rt E hP (show 0 < 2 by decide) (vp_lt hin_85)) rfl rfl (Nat.le_of_ble_eq_true rfl) ⟨Nat.zero_le _, Nat.zero_le _⟩ dX4_route_87) hS (fun H locs hP hS => ?_)
      refine lv_aload_n E.1 E.2.1 dX4_route_90 rfl (lv_at hl 1 rfl) ?_
      refine g_bay E hP 0 (by decide) gw_13 dX4_route_91 ?_
      refine lv_iload E.1 E.2.1 dX4_route_94 (lv_at hl 0 rfl) ?_
      refine lv_iconst (v := 1) E.1 E.2.1 dX4_route_96 (by decide) ?_
      refine lv_iadd E.1 E.2.1 dX4_route_97 ?_
      refine p_ln E hP hA hS (upL_same V 0 (addBlockF (layF S ((S 4 0 0).toNatClampNeg) a b z) ((S 4 0 0).toNatClampNeg) x)) (show 0 < 2 by decide) 4 (by decide) gw_78 (V' := upL V 0 (up (addBlockF (layF S ((S 4 0 0).toNatClampNeg) a b z) ((S 4 0 0).toNatClampNeg) x) 4 0 0 ((S 4 0 0) + 1))) (upL_upL V 0 _ _) dX4_route_98 (fun H locs hP hS => ?_)
      refine lv_iload E.1 E.2.1 dX4_route_101 (lv_at hl 0 rfl) ?_
      exact e_iX E hr hlk hP hS (fin1 hV' (by rfl)) rfl dX4_route_103
    · exact absurd hrc c_37
  · exact absurd c_15 hab

abbrev rm_X4_over : Room := { frames := 2, cells := 0, slots := 0, locals := 43 }
theorem k_X4_over : Card yX4_over cX4_over 4 (some .int) 2 := ⟨gw_138, gw_2, by decide +kernel, by decide +kernel⟩
set_option maxHeartbeats 4000000 in
set_option maxRecDepth 20000 in
theorem c_X4_over (l : Launch) {Z : Gm} (hA : AA Z) {V : Nat → St} {V' : Nat → St} {S : St} (hV : V 0 = S) (x : Int32) (h0 : ¬ x < 0) (h1 : x < S 4 0 0) (y : Int32) (y0 : ¬ y < 0) (y1 : y < S 2 0 0) (hnb : hasBlockF S x.toNatClampNeg y (S 23 x.toNatClampNeg 0).toNatClampNeg = false) (hc : ¬ 5 ≤ S 23 x.toNatClampNeg 0) (hu : inUseF S x (nT S) = false) (hL : Lim S) (hV' : upL V 0 (addBlockF S x.toNatClampNeg y) = V') : Met l yX4_over (.code yX4_over cX4_over 4 (some .int) :: gG) rm_X4_over (PW Z V [.ref (ad Z 0), .int x, .int y]) (QX Z (some (.int ((addBlockF S x.toNatClampNeg y) 23 x.toNatClampNeg 0))) V') 0 0 (inW Z) := by
  refine met_of (by decide +kernel) (Nat.le_of_ble_eq_true rfl) ?_
  intro p e s m args below meth c ls E hr hlk hml hP hl
  have E : EE Z p s m args c cX4_over RX4 := E
  have hl : lv_has ls 4 [(0, .ref (ad Z 0)), (1, .int x), (2, .int y)] := hl
  have hS : va_S (inW Z) s.heap s.heap [] := va_S.rf
  have hT := hL.2.2
  have hR := hL.2.1
  have hB := hL.1
  refine lv_aload_n E.1 E.2.1 dX4_over_0 rfl (lv_at hl 0 rfl) ?_
  refine lv_iload_n E.1 E.2.1 dX4_over_1 rfl (lv_at hl 1 rfl) ?_
  refine go_Pv (run_V (rest := []) E hml hl.1 (c_X4_needRoute l  hV x h0 h1) k_X4_needRoute ⟨rfl, rfl, Nat.le_of_ble_eq_true rfl, Nat.le_of_ble_eq_true rfl⟩ gw_112 gw_113 gw_114 hP (rv_bay E hP) rfl rfl (Nat.le_of_ble_eq_true rfl) ⟨Nat.zero_le _, Nat.zero_le _⟩ dX4_over_2) ?_
  refine lv_aload_n E.1 E.2.1 dX4_over_5 rfl (lv_at hl 0 rfl) ?_
  refine lv_iload_n E.1 E.2.1 dX4_over_6 rfl (lv_at hl 2 rfl) ?_
  refine go_Pv (run_V (rest := []) E hml hl.1 (c_X4_needBlock l  hV y y0 y1) k_X4_needBlock ⟨rfl, rfl, Nat.le_of_ble_eq_true rfl, Nat.le_of_ble_eq_true rfl⟩ gw_88 gw_89 gw_90 hP (rv_bay E hP) rfl rfl (Nat.le_of_ble_eq_true rfl) ⟨Nat.zero_le _, Nat.zero_le _⟩ dX4_over_7) ?_
  refine lv_aload_n E.1 E.2.1 dX4_over_10 rfl (lv_at hl 0 rfl) ?_
  refine g_bay E hP 0 (by decide) gw_13 dX4_over_11 ?_
  refine g_ln E hP hV (show 0 < 2 by decide) 3 (by decide) gw_79 rfl dX4_over_14 ?_
  refine lv_iload_n E.1 E.2.1 dX4_over_17 rfl (lv_at hl 1 rfl) ?_
  have hin_18 : vp_in x 16 := vinL h0 h1 (clamp_le hR)
  refine a_rt (k := (x.toNatClampNeg)) E hP (show 0 < 2 by decide) rfl hin_18 dX4_over_18 ?_
  refine lv_astore_n (lv' := [(3, .ref (ad Z (cRt 0 (x.toNatClampNeg)))), (0, .ref (ad Z 0)), (1, .int x), (2, .int y)]) E.1 E.2.1 dX4_over_19 rfl hl (by decide) rfl (fun ls hl => ?_)
  refine lv_aload_n E.1 E.2.1 dX4_over_20 rfl (lv_at hl 0 rfl) ?_
  refine lv_iload_n E.1 E.2.1 dX4_over_21 rfl (lv_at hl 3 rfl) ?_
  refine go_Pi (run_V (rest := []) E hml hl.1 (c_X2_hasBlock l  hV (show 0 < 2 by decide) (vp_lt hin_18) y) k_X2_hasBlock ⟨rfl, rfl, Nat.le_of_ble_eq_true rfl, Nat.le_of_ble_eq_true rfl⟩ gw_139 gw_140 gw_141 hP (rv_rt E hP (show 0 < 2 by decide) (vp_lt hin_18)) rfl rfl (Nat.le_of_ble_eq_true rfl) ⟨Nat.zero_le _, Nat.zero_le _⟩ dX4_over_22) ?_
  refine lv_if_eq (tgt := 38) E.1 E.2.1 dX4_over_25 (by decide) (fun c_25 => ?_) (fun c_25 => ?_)
  · refine lv_aload_n E.1 E.2.1 dX4_over_38 rfl (lv_at hl 0 rfl) ?_
    refine g_rt (v := .int (S 23 (x.toNatClampNeg) 0)) E hP hV (show 0 < 2 by decide) (vp_lt hin_18) 3 (by decide) gw_110 rfl dX4_over_39 ?_
    refine lv_iconst (v := 5) E.1 E.2.1 dX4_over_42 (by decide) ?_
    refine lv_icmp_ge (tgt := 57) E.1 E.2.1 dX4_over_43 (by decide) (fun c_43 => ?_) (fun c_43 => ?_)
    · exact absurd c_43 hc
    · refine lv_aload_n E.1 E.2.1 dX4_over_46 rfl (lv_at hl 1 rfl) ?_
      refine g_bay E hP 0 (by decide) gw_13 dX4_over_47 ?_
      refine lv_iload_n E.1 E.2.1 dX4_over_50 rfl (lv_at hl 2 rfl) ?_
      refine go_Pi (run_V (rest := []) E hml hl.1 (c_X1_isInUse l  hV (show 0 < 2 by decide) x hL) k_X1_isInUse ⟨rfl, rfl, Nat.le_of_ble_eq_true rfl, Nat.le_of_ble_eq_true rfl⟩ gw_144 gw_145 gw_146 hP (rv_ln E hP (show 0 < 2 by decide)) rfl rfl (Nat.le_of_ble_eq_true rfl) ⟨Nat.zero_le _, Nat.zero_le _⟩ dX4_over_51) ?_
      refine lv_if_eq (tgt := 67) E.1 E.2.1 dX4_over_54 (by decide) (fun c_54 => ?_) (fun c_54 => ?_)
      · refine lv_aload_n E.1 E.2.1 dX4_over_67 rfl (lv_at hl 0 rfl) ?_
        refine lv_iload_n E.1 E.2.1 dX4_over_68 rfl (lv_at hl 3 rfl) ?_
        refine go_Xv (run_V (rest := []) E hml hl.1 (c_X2_addBlock l hA (V' := upL V 0 (addBlockF S (x.toNatClampNeg) y)) hV (show 0 < 2 by decide) (vp_lt hin_18) y rfl) k_X2_addBlock ⟨rfl, rfl, Nat.le_of_ble_eq_true rfl, Nat.le_of_ble_eq_true rfl⟩ gw_100 gw_101 gw_102 hP (rv_rt E hP (show 0 < 2 by decide) (vp_lt hin_18)) rfl rfl (Nat.le_of_ble_eq_true rfl) ⟨Nat.zero_le _, Nat.zero_le _⟩ dX4_over_69) hS (fun H locs hP hS => ?_)
        refine lv_aload_n E.1 E.2.1 dX4_over_72 rfl (lv_at hl 0 rfl) ?_
        refine g_rt (v := .int ((addBlockF S (x.toNatClampNeg) y) 23 (x.toNatClampNeg) 0)) E hP (upL_same V 0 (addBlockF S (x.toNatClampNeg) y)) (show 0 < 2 by decide) (vp_lt hin_18) 3 (by decide) gw_110 rfl dX4_over_73 ?_
        exact e_iX E hr hlk hP hS (fin1 hV' (by rfl)) rfl dX4_over_76
      · exact absurd (by rw [hu]; rfl) c_54
  · exact absurd (by rw [hnb]; rfl) c_25

abbrev rm_X4_order : Room := { frames := 1, cells := 0, slots := 0, locals := 22 }
theorem k_X4_order : Card yX4_order cX4_order 4 (some .int) 2 := ⟨gw_216, gw_2, by decide +kernel, by decide +kernel⟩
set_option maxHeartbeats 4000000 in
set_option maxRecDepth 20000 in
theorem c_X4_order (l : Launch) {Z : Gm} (hA : AA Z) {V : Nat → St} {V' : Nat → St} {S : St} (hV : V 0 = S) (a b : Int32) (a0 : ¬ a < 0) (a2 : a ≤ 2) (b0 : ¬ b < 0) (b9 : b ≤ 9) (hV' : upL V 0 (orderF S a b) = V') : Met l yX4_order (.code yX4_order cX4_order 4 (some .int) :: gG) rm_X4_order (PW Z V [.ref (ad Z 0), .int a, .int b]) (QX Z (some (.int (S 7 0 0))) V') 0 0 (inW Z) := by
  refine met_of (by decide +kernel) (Nat.le_of_ble_eq_true rfl) ?_
  intro p e s m args below meth c ls E hr hlk hml hP hl
  have E : EE Z p s m args c cX4_order RX4 := E
  have hl : lv_has ls 4 [(0, .ref (ad Z 0)), (1, .int a), (2, .int b)] := hl
  have hS : va_S (inW Z) s.heap s.heap [] := va_S.rf
  refine lv_iload_n E.1 E.2.1 dX4_order_0 rfl (lv_at hl 1 rfl) ?_
  refine lv_iconst (v := 0) E.1 E.2.1 dX4_order_1 (by decide) ?_
  refine lv_iconst (v := 2) E.1 E.2.1 dX4_order_2 (by decide) ?_
  refine go_Pv (run_S (rest := []) E hml hl.1 (c_X4_needWithin l (V := V) a 0 2 a0 a2) k_X4_needWithin ⟨rfl, rfl, Nat.le_of_ble_eq_true rfl, Nat.le_of_ble_eq_true rfl⟩ gw_69 gw_70 hP  rfl rfl (Nat.le_of_ble_eq_true rfl) ⟨Nat.zero_le _, Nat.zero_le _⟩ dX4_order_3) ?_
  refine lv_iload_n E.1 E.2.1 dX4_order_6 rfl (lv_at hl 2 rfl) ?_
  refine lv_iconst (v := 0) E.1 E.2.1 dX4_order_7 (by decide) ?_
  refine lv_bipush (v := 9) E.1 E.2.1 dX4_order_8 (by decide) ?_
  refine go_Pv (run_S (rest := []) E hml hl.1 (c_X4_needWithin l (V := V) b 0 9 b0 b9) k_X4_needWithin ⟨rfl, rfl, Nat.le_of_ble_eq_true rfl, Nat.le_of_ble_eq_true rfl⟩ gw_69 gw_70 hP  rfl rfl (Nat.le_of_ble_eq_true rfl) ⟨Nat.zero_le _, Nat.zero_le _⟩ dX4_order_10) ?_
  refine lv_aload_n E.1 E.2.1 dX4_order_13 rfl (lv_at hl 0 rfl) ?_
  refine g_bay E hP 0 (by decide) gw_13 dX4_order_14 ?_
  refine g_ln (v := .int (S 7 0 0)) E hP hV (show 0 < 2 by decide) 7 (by decide) gw_217 rfl dX4_order_17 ?_
  refine lv_istore_n (lv' := [(3, .int (S 7 0 0)), (0, .ref (ad Z 0)), (1, .int a), (2, .int b)]) E.1 E.2.1 dX4_order_20 rfl hl (by decide) rfl (fun ls hl => ?_)
  refine lv_aload_n E.1 E.2.1 dX4_order_21 rfl (lv_at hl 1 rfl) ?_
  refine g_bay E hP 0 (by decide) gw_13 dX4_order_22 ?_
  refine lv_iload_n E.1 E.2.1 dX4_order_25 rfl (lv_at hl 2 rfl) ?_
  refine p_ln E hP hA hS hV (show 0 < 2 by decide) 7 (by decide) gw_217 (V' := upL V 0 (up S 7 0 0 a)) rfl dX4_order_26 (fun H locs hP hS => ?_)
  refine lv_aload_n E.1 E.2.1 dX4_order_29 rfl (lv_at hl 1 rfl) ?_
  refine g_bay E hP 0 (by decide) gw_13 dX4_order_30 ?_
  refine lv_iload_n E.1 E.2.1 dX4_order_33 rfl (lv_at hl 3 rfl) ?_
  refine p_ln E hP hA hS (upL_same V 0 (up S 7 0 0 a)) (show 0 < 2 by decide) 8 (by decide) gw_218 (V' := upL V 0 (up (up S 7 0 0 a) 8 0 0 b)) (upL_upL V 0 _ _) dX4_order_34 (fun H locs hP hS => ?_)
  refine lv_iload_n E.1 E.2.1 dX4_order_37 rfl (lv_at hl 0 rfl) ?_
  exact e_iX E hr hlk hP hS (fin1 hV' (by rfl)) rfl dX4_order_38

abbrev rm_X4_train : Room := { frames := 2, cells := 0, slots := 0, locals := 45 }
theorem k_X4_train : Card yX4_train cX4_train 7 (some .int) 4 := ⟨gw_169, gw_2, by decide +kernel, by decide +kernel⟩
set_option maxHeartbeats 4000000 in
set_option maxRecDepth 20000 in
theorem c_X4_train (l : Launch) {Z : Gm} (hA : AA Z) {V : Nat → St} {V' : Nat → St} {S : St} (hV : V 0 = S) (a b x t : Int32) (a0 : ¬ a < 0) (a9 : a ≤ 9) (b1 : ¬ b < 1) (b3 : b ≤ 3) (h0 : ¬ x < 0) (h1 : x < 6) (t0 : ¬ t < 0) (t9 : t ≤ 9999) (hT0 : ¬ S 6 0 0 < 0) (hT8 : ¬ 8 ≤ S 6 0 0) (hroom : hasRoomF S x = true) (hL : Lim S) (hV' : upL V 0 (trainF S a b x t) = V') : Met l yX4_train (.code yX4_train cX4_train 7 (some .int) :: gG) rm_X4_train (PW Z V [.ref (ad Z 0), .int a, .int b, .int x, .int t]) (QX Z (some (.int (S 6 0 0))) V') 0 0 (inW Z) := by
  refine met_of (by decide +kernel) (Nat.le_of_ble_eq_true rfl) ?_
  intro p e s m args below meth c ls E hr hlk hml hP hl
  have E : EE Z p s m args c cX4_train RX4 := E
  have hl : lv_has ls 7 [(0, .ref (ad Z 0)), (1, .int a), (2, .int b), (3, .int x), (4, .int t)] := hl
  have hS : va_S (inW Z) s.heap s.heap [] := va_S.rf
  have hT := hL.2.2
  have hR := hL.2.1
  have hB := hL.1
  refine lv_iload_n E.1 E.2.1 dX4_train_0 rfl (lv_at hl 3 rfl) ?_
  refine go_Pv (run_S (rest := []) E hml hl.1 (c_X4_needStation l (V := V) x h0 h1) k_X4_needStation ⟨rfl, rfl, Nat.le_of_ble_eq_true rfl, Nat.le_of_ble_eq_true rfl⟩ gw_80 gw_81 hP  rfl rfl (Nat.le_of_ble_eq_true rfl) ⟨Nat.zero_le _, Nat.zero_le _⟩ dX4_train_1) ?_
  refine lv_iload_n E.1 E.2.1 dX4_train_4 rfl (lv_at hl 1 rfl) ?_
  refine lv_iconst (v := 0) E.1 E.2.1 dX4_train_5 (by decide) ?_
  refine lv_bipush (v := 9) E.1 E.2.1 dX4_train_6 (by decide) ?_
  refine go_Pv (run_S (rest := []) E hml hl.1 (c_X4_needWithin l (V := V) a 0 9 a0 a9) k_X4_needWithin ⟨rfl, rfl, Nat.le_of_ble_eq_true rfl, Nat.le_of_ble_eq_true rfl⟩ gw_69 gw_70 hP  rfl rfl (Nat.le_of_ble_eq_true rfl) ⟨Nat.zero_le _, Nat.zero_le _⟩ dX4_train_8) ?_
  refine lv_iload_n E.1 E.2.1 dX4_train_11 rfl (lv_at hl 2 rfl) ?_
  refine lv_iconst (v := 1) E.1 E.2.1 dX4_train_12 (by decide) ?_
  refine lv_iconst (v := 3) E.1 E.2.1 dX4_train_13 (by decide) ?_
  refine go_Pv (run_S (rest := []) E hml hl.1 (c_X4_needWithin l (V := V) b 1 3 b1 b3) k_X4_needWithin ⟨rfl, rfl, Nat.le_of_ble_eq_true rfl, Nat.le_of_ble_eq_true rfl⟩ gw_69 gw_70 hP  rfl rfl (Nat.le_of_ble_eq_true rfl) ⟨Nat.zero_le _, Nat.zero_le _⟩ dX4_train_14) ?_
  refine lv_iload E.1 E.2.1 dX4_train_17 (lv_at hl 4 rfl) ?_
  refine lv_iconst (v := 0) E.1 E.2.1 dX4_train_19 (by decide) ?_
  refine lv_sipush (v := 9999) E.1 E.2.1 dX4_train_20 (by decide) ?_
  refine go_Pv (run_S (rest := []) E hml hl.1 (c_X4_needWithin l (V := V) t 0 9999 t0 t9) k_X4_needWithin ⟨rfl, rfl, Nat.le_of_ble_eq_true rfl, Nat.le_of_ble_eq_true rfl⟩ gw_69 gw_70 hP  rfl rfl (Nat.le_of_ble_eq_true rfl) ⟨Nat.zero_le _, Nat.zero_le _⟩ dX4_train_23) ?_
  refine lv_aload_n E.1 E.2.1 dX4_train_26 rfl (lv_at hl 0 rfl) ?_
  refine g_bay E hP 0 (by decide) gw_13 dX4_train_27 ?_
  refine g_ln (v := .int (S 6 0 0)) E hP hV (show 0 < 2 by decide) 6 (by decide) gw_170 rfl dX4_train_30 ?_
  refine lv_bipush (v := 8) E.1 E.2.1 dX4_train_33 (by decide) ?_
  refine lv_icmp_ge (tgt := 49) E.1 E.2.1 dX4_train_35 (by decide) (fun c_35 => ?_) (fun c_35 => ?_)
  · exact absurd c_35 hT8
  · refine lv_aload_n E.1 E.2.1 dX4_train_38 rfl (lv_at hl 0 rfl) ?_
    refine g_bay E hP 0 (by decide) gw_13 dX4_train_39 ?_
    refine lv_iload_n E.1 E.2.1 dX4_train_42 rfl (lv_at hl 3 rfl) ?_
    refine go_Pi (run_V (rest := []) E hml hl.1 (c_X1_hasRoom l  hV (show 0 < 2 by decide) x hL) k_X1_hasRoom ⟨rfl, rfl, Nat.le_of_ble_eq_true rfl, Nat.le_of_ble_eq_true rfl⟩ gw_177 gw_178 gw_179 hP (rv_ln E hP (show 0 < 2 by decide)) rfl rfl (Nat.le_of_ble_eq_true rfl) ⟨Nat.zero_le _, Nat.zero_le _⟩ dX4_train_43) ?_
    refine lv_if_ne (tgt := 59) E.1 E.2.1 dX4_train_46 (by decide) (fun c_46 => ?_) (fun c_46 => ?_)
    · refine lv_aload_n E.1 E.2.1 dX4_train_59 rfl (lv_at hl 0 rfl) ?_
      refine g_bay E hP 0 (by decide) gw_13 dX4_train_60 ?_
      refine g_ln (v := .int (S 6 0 0)) E hP hV (show 0 < 2 by decide) 6 (by decide) gw_170 rfl dX4_train_63 ?_
      refine lv_istore (lv' := [(5, .int (S 6 0 0)), (0, .ref (ad Z 0)), (1, .int a), (2, .int b), (3, .int x), (4, .int t)]) E.1 E.2.1 dX4_train_66 hl (by decide) rfl (fun ls hl => ?_)
      refine lv_aload_n E.1 E.2.1 dX4_train_68 rfl (lv_at hl 1 rfl) ?_
      refine g_bay E hP 0 (by decide) gw_13 dX4_train_69 ?_
      refine g_ln E hP hV (show 0 < 2 by decide) 5 (by decide) gw_171 rfl dX4_train_72 ?_
      refine lv_iload E.1 E.2.1 dX4_train_75 (lv_at hl 0 rfl) ?_
      have hin_77 : vp_in (S 6 0 0) 8 := vin hT0 hT8 (by decide)
      refine a_tr (k := ((S 6 0 0).toNatClampNeg)) E hP (show 0 < 2 by decide) rfl hin_77 dX4_train_77 ?_
      refine lv_astore (lv' := [(6, .ref (ad Z (cTr 0 ((S 6 0 0).toNatClampNeg)))), (5, .int (S 6 0 0)), (0, .ref (ad Z 0)), (1, .int a), (2, .int b), (3, .int x), (4, .int t)]) E.1 E.2.1 dX4_train_78 hl (by decide) rfl (fun ls hl => ?_)
      refine lv_aload E.1 E.2.1 dX4_train_80 (lv_at hl 0 rfl) ?_
      refine lv_iload_n E.1 E.2.1 dX4_train_82 rfl (lv_at hl 3 rfl) ?_
      refine p_tr E hP hA hS hV (show 0 < 2 by decide) (vp_lt hin_77) 0 (by decide) gw_172 (V' := upL V 0 (up S 30 ((S 6 0 0).toNatClampNeg) 0 a)) rfl dX4_train_83 (fun H locs hP hS => ?_)
      refine lv_aload E.1 E.2.1 dX4_train_86 (lv_at hl 0 rfl) ?_
      refine lv_iload_n E.1 E.2.1 dX4_train_88 rfl (lv_at hl 4 rfl) ?_
      refine p_tr E hP hA hS (upL_same V 0 (up S 30 ((S 6 0 0).toNatClampNeg) 0 a)) (show 0 < 2 by decide) (vp_lt hin_77) 1 (by decide) gw_173 (V' := upL V 0 (up (up S 30 ((S 6 0 0).toNatClampNeg) 0 a) 31 ((S 6 0 0).toNatClampNeg) 0 b)) (upL_upL V 0 _ _) dX4_train_89 (fun H locs hP hS => ?_)
      refine lv_aload E.1 E.2.1 dX4_train_92 (lv_at hl 0 rfl) ?_
      refine lv_iload_n E.1 E.2.1 dX4_train_94 rfl (lv_at hl 5 rfl) ?_
      refine p_tr E hP hA hS (upL_same V 0 (up (up S 30 ((S 6 0 0).toNatClampNeg) 0 a) 31 ((S 6 0 0).toNatClampNeg) 0 b)) (show 0 < 2 by decide) (vp_lt hin_77) 6 (by decide) gw_174 (V' := upL V 0 (up (up (up S 30 ((S 6 0 0).toNatClampNeg) 0 a) 31 ((S 6 0 0).toNatClampNeg) 0 b) 36 ((S 6 0 0).toNatClampNeg) 0 x)) (upL_upL V 0 _ _) dX4_train_95 (fun H locs hP hS => ?_)
      refine lv_aload E.1 E.2.1 dX4_train_98 (lv_at hl 0 rfl) ?_
      refine lv_aload_n E.1 E.2.1 dX4_train_100 rfl (lv_at hl 2 rfl) ?_
      refine g_bay E hP 0 (by decide) gw_13 dX4_train_101 ?_
      refine g_ln (v := .int (S 9 0 0)) E hP (upL_same V 0 (up (up (up S 30 ((S 6 0 0).toNatClampNeg) 0 a) 31 ((S 6 0 0).toNatClampNeg) 0 b) 36 ((S 6 0 0).toNatClampNeg) 0 x)) (show 0 < 2 by decide) 9 (by decide) gw_175 (by first | rfl | simp [fLn, up_f, up_s]) dX4_train_104 ?_
      refine p_tr E hP hA hS (upL_same V 0 (up (up (up S 30 ((S 6 0 0).toNatClampNeg) 0 a) 31 ((S 6 0 0).toNatClampNeg) 0 b) 36 ((S 6 0 0).toNatClampNeg) 0 x)) (show 0 < 2 by decide) (vp_lt hin_77) 7 (by decide) gw_176 (V' := upL V 0 (up (up (up (up S 30 ((S 6 0 0).toNatClampNeg) 0 a) 31 ((S 6 0 0).toNatClampNeg) 0 b) 36 ((S 6 0 0).toNatClampNeg) 0 x) 37 ((S 6 0 0).toNatClampNeg) 0 (S 9 0 0))) (upL_upL V 0 _ _) dX4_train_107 (fun H locs hP hS => ?_)
      refine lv_aload E.1 E.2.1 dX4_train_110 (lv_at hl 0 rfl) ?_
      refine lv_iload_n E.1 E.2.1 dX4_train_112 rfl (lv_at hl 5 rfl) ?_
      refine lv_iload E.1 E.2.1 dX4_train_113 (lv_at hl 6 rfl) ?_
      refine go_Xv (run_V (rest := []) E hml hl.1 (c_X3_addStop l hA (V' := upL V 0 (addStopF (up (up (up (up S 30 ((S 6 0 0).toNatClampNeg) 0 a) 31 ((S 6 0 0).toNatClampNeg) 0 b) 36 ((S 6 0 0).toNatClampNeg) 0 x) 37 ((S 6 0 0).toNatClampNeg) 0 (S 9 0 0)) ((S 6 0 0).toNatClampNeg) x t)) (upL_same V 0 (up (up (up (up S 30 ((S 6 0 0).toNatClampNeg) 0 a) 31 ((S 6 0 0).toNatClampNeg) 0 b) 36 ((S 6 0 0).toNatClampNeg) 0 x) 37 ((S 6 0 0).toNatClampNeg) 0 (S 9 0 0))) (show 0 < 2 by decide) (vp_lt hin_77) x t (upL_upL V 0 _ _)) k_X3_addStop ⟨rfl, rfl, Nat.le_of_ble_eq_true rfl, Nat.le_of_ble_eq_true rfl⟩ gw_183 gw_184 gw_185 hP (rv_tr E hP (show 0 < 2 by decide) (vp_lt hin_77)) rfl rfl (Nat.le_of_ble_eq_true rfl) ⟨Nat.zero_le _, Nat.zero_le _⟩ dX4_train_115) hS (fun H locs hP hS => ?_)
      refine lv_aload_n E.1 E.2.1 dX4_train_118 rfl (lv_at hl 2 rfl) ?_
      refine g_bay E hP 0 (by decide) gw_13 dX4_train_119 ?_
      refine lv_iload E.1 E.2.1 dX4_train_122 (lv_at hl 1 rfl) ?_
      refine lv_iconst (v := 1) E.1 E.2.1 dX4_train_124 (by decide) ?_
      refine lv_iadd E.1 E.2.1 dX4_train_125 ?_
      refine p_ln E hP hA hS (upL_same V 0 (addStopF (up (up (up (up S 30 ((S 6 0 0).toNatClampNeg) 0 a) 31 ((S 6 0 0).toNatClampNeg) 0 b) 36 ((S 6 0 0).toNatClampNeg) 0 x) 37 ((S 6 0 0).toNatClampNeg) 0 (S 9 0 0)) ((S 6 0 0).toNatClampNeg) x t)) (show 0 < 2 by decide) 6 (by decide) gw_170 (V' := upL V 0 (up (addStopF (up (up (up (up S 30 ((S 6 0 0).toNatClampNeg) 0 a) 31 ((S 6 0 0).toNatClampNeg) 0 b) 36 ((S 6 0 0).toNatClampNeg) 0 x) 37 ((S 6 0 0).toNatClampNeg) 0 (S 9 0 0)) ((S 6 0 0).toNatClampNeg) x t) 6 0 0 ((S 6 0 0) + 1))) (upL_upL V 0 _ _) dX4_train_126 (fun H locs hP hS => ?_)
      refine lv_iload E.1 E.2.1 dX4_train_129 (lv_at hl 1 rfl) ?_
      exact e_iX E hr hlk hP hS (fin1 hV' (by rfl)) rfl dX4_train_131
    · exact absurd (by rw [hroom] at c_46; exact c_46) (by decide)

abbrev rm_X4_stop : Room := { frames := 2, cells := 0, slots := 0, locals := 42 }
theorem k_X4_stop : Card yX4_stop cX4_stop 6 (some .int) 3 := ⟨gw_208, gw_2, by decide +kernel, by decide +kernel⟩
set_option maxHeartbeats 4000000 in
set_option maxRecDepth 20000 in
theorem c_X4_stop (l : Launch) {Z : Gm} (hA : AA Z) {V : Nat → St} {V' : Nat → St} {S : St} (hV : V 0 = S) (x : Int32) (h0 : ¬ x < 0) (h1 : x < S 6 0 0) (y t : Int32) (y0 : ¬ y < 0) (y6 : y < 6) (t0 : ¬ t < 0) (t9 : t ≤ 9999) (ht : ¬ t < timeF S x.toNatClampNeg (S 32 x.toNatClampNeg 0 - 1)) (hy : ¬ y = stationF S x.toNatClampNeg (S 32 x.toNatClampNeg 0 - 1)) (h8 : ¬ 8 ≤ S 32 x.toNatClampNeg 0) (hd : doneF S x.toNatClampNeg = false) (hL : Lim S) (hV' : upL V 0 (addStopF S x.toNatClampNeg y t) = V') : Met l yX4_stop (.code yX4_stop cX4_stop 6 (some .int) :: gG) rm_X4_stop (PW Z V [.ref (ad Z 0), .int x, .int y, .int t]) (QX Z (some (.int ((addStopF S x.toNatClampNeg y t) 32 x.toNatClampNeg 0))) V') 0 0 (inW Z) := by
  refine met_of (by decide +kernel) (Nat.le_of_ble_eq_true rfl) ?_
  intro p e s m args below meth c ls E hr hlk hml hP hl
  have E : EE Z p s m args c cX4_stop RX4 := E
  have hl : lv_has ls 6 [(0, .ref (ad Z 0)), (1, .int x), (2, .int y), (3, .int t)] := hl
  have hS : va_S (inW Z) s.heap s.heap [] := va_S.rf
  have hT := hL.2.2
  have hR := hL.2.1
  have hB := hL.1
  refine lv_aload_n E.1 E.2.1 dX4_stop_0 rfl (lv_at hl 0 rfl) ?_
  refine lv_iload_n E.1 E.2.1 dX4_stop_1 rfl (lv_at hl 1 rfl) ?_
  refine go_Pv (run_V (rest := []) E hml hl.1 (c_X4_needTrain l  hV x h0 h1) k_X4_needTrain ⟨rfl, rfl, Nat.le_of_ble_eq_true rfl, Nat.le_of_ble_eq_true rfl⟩ gw_193 gw_194 gw_195 hP (rv_bay E hP) rfl rfl (Nat.le_of_ble_eq_true rfl) ⟨Nat.zero_le _, Nat.zero_le _⟩ dX4_stop_2) ?_
  refine lv_iload_n E.1 E.2.1 dX4_stop_5 rfl (lv_at hl 2 rfl) ?_
  refine go_Pv (run_S (rest := []) E hml hl.1 (c_X4_needStation l (V := V) y y0 y6) k_X4_needStation ⟨rfl, rfl, Nat.le_of_ble_eq_true rfl, Nat.le_of_ble_eq_true rfl⟩ gw_80 gw_81 hP  rfl rfl (Nat.le_of_ble_eq_true rfl) ⟨Nat.zero_le _, Nat.zero_le _⟩ dX4_stop_6) ?_
  refine lv_aload_n E.1 E.2.1 dX4_stop_9 rfl (lv_at hl 0 rfl) ?_
  refine g_bay E hP 0 (by decide) gw_13 dX4_stop_10 ?_
  refine g_ln E hP hV (show 0 < 2 by decide) 5 (by decide) gw_171 rfl dX4_stop_13 ?_
  refine lv_iload_n E.1 E.2.1 dX4_stop_16 rfl (lv_at hl 1 rfl) ?_
  have hin_17 : vp_in x 8 := vinL h0 h1 (clamp_le hT)
  refine a_tr (k := (x.toNatClampNeg)) E hP (show 0 < 2 by decide) rfl hin_17 dX4_stop_17 ?_
  refine lv_astore (lv' := [(4, .ref (ad Z (cTr 0 (x.toNatClampNeg)))), (0, .ref (ad Z 0)), (1, .int x), (2, .int y), (3, .int t)]) E.1 E.2.1 dX4_stop_18 hl (by decide) rfl (fun ls hl => ?_)
  refine lv_aload E.1 E.2.1 dX4_stop_20 (lv_at hl 0 rfl) ?_
  refine g_tr (v := .int (S 32 (x.toNatClampNeg) 0)) E hP hV (show 0 < 2 by decide) (vp_lt hin_17) 2 (by decide) gw_192 rfl dX4_stop_22 ?_
  refine lv_iconst (v := 1) E.1 E.2.1 dX4_stop_25 (by decide) ?_
  refine lv_isub E.1 E.2.1 dX4_stop_26 ?_
  refine lv_istore (lv' := [(5, .int ((S 32 (x.toNatClampNeg) 0) - 1)), (4, .ref (ad Z (cTr 0 (x.toNatClampNeg)))), (0, .ref (ad Z 0)), (1, .int x), (2, .int y), (3, .int t)]) E.1 E.2.1 dX4_stop_27 hl (by decide) rfl (fun ls hl => ?_)
  refine lv_iload_n E.1 E.2.1 dX4_stop_29 rfl (lv_at hl 5 rfl) ?_
  refine lv_iconst (v := 0) E.1 E.2.1 dX4_stop_30 (by decide) ?_
  refine lv_sipush (v := 9999) E.1 E.2.1 dX4_stop_31 (by decide) ?_
  refine go_Pv (run_S (rest := []) E hml hl.1 (c_X4_needWithin l (V := V) t 0 9999 t0 t9) k_X4_needWithin ⟨rfl, rfl, Nat.le_of_ble_eq_true rfl, Nat.le_of_ble_eq_true rfl⟩ gw_69 gw_70 hP  rfl rfl (Nat.le_of_ble_eq_true rfl) ⟨Nat.zero_le _, Nat.zero_le _⟩ dX4_stop_34) ?_
  refine lv_iload_n E.1 E.2.1 dX4_stop_37 rfl (lv_at hl 5 rfl) ?_
  refine lv_aload E.1 E.2.1 dX4_stop_38 (lv_at hl 1 rfl) ?_
  refine lv_iload E.1 E.2.1 dX4_stop_40 (lv_at hl 0 rfl) ?_
  refine go_Pi (run_V (rest := [.int t]) E hml hl.1 (c_X3_timeOf l  hV (show 0 < 2 by decide) (vp_lt hin_17) ((S 32 (x.toNatClampNeg) 0) - 1)) k_X3_timeOf ⟨rfl, rfl, Nat.le_of_ble_eq_true rfl, Nat.le_of_ble_eq_true rfl⟩ gw_197 gw_198 gw_199 hP (rv_tr E hP (show 0 < 2 by decide) (vp_lt hin_17)) rfl rfl (Nat.le_of_ble_eq_true rfl) ⟨Nat.zero_le _, Nat.zero_le _⟩ dX4_stop_42) ?_
  refine lv_icmp_lt (tgt := 59) E.1 E.2.1 dX4_stop_45 (by decide) (fun c_45 => ?_) (fun c_45 => ?_)
  · exact absurd c_45 ht
  · refine lv_iload_n E.1 E.2.1 dX4_stop_48 rfl (lv_at hl 4 rfl) ?_
    refine lv_aload E.1 E.2.1 dX4_stop_49 (lv_at hl 1 rfl) ?_
    refine lv_iload E.1 E.2.1 dX4_stop_51 (lv_at hl 0 rfl) ?_
    refine go_Pi (run_V (rest := [.int y]) E hml hl.1 (c_X3_stationOf l  hV (show 0 < 2 by decide) (vp_lt hin_17) ((S 32 (x.toNatClampNeg) 0) - 1)) k_X3_stationOf ⟨rfl, rfl, Nat.le_of_ble_eq_true rfl, Nat.le_of_ble_eq_true rfl⟩ gw_201 gw_202 gw_203 hP (rv_tr E hP (show 0 < 2 by decide) (vp_lt hin_17)) rfl rfl (Nat.le_of_ble_eq_true rfl) ⟨Nat.zero_le _, Nat.zero_le _⟩ dX4_stop_53) ?_
    refine lv_icmp_ne (tgt := 69) E.1 E.2.1 dX4_stop_56 (by decide) (fun c_56 => ?_) (fun c_56 => ?_)
    · refine lv_aload E.1 E.2.1 dX4_stop_69 (lv_at hl 1 rfl) ?_
      refine g_tr (v := .int (S 32 (x.toNatClampNeg) 0)) E hP hV (show 0 < 2 by decide) (vp_lt hin_17) 2 (by decide) gw_192 rfl dX4_stop_71 ?_
      refine lv_bipush (v := 8) E.1 E.2.1 dX4_stop_74 (by decide) ?_
      refine lv_icmp_ge (tgt := 87) E.1 E.2.1 dX4_stop_76 (by decide) (fun c_76 => ?_) (fun c_76 => ?_)
      · exact absurd c_76 h8
      · refine lv_aload E.1 E.2.1 dX4_stop_79 (lv_at hl 1 rfl) ?_
        refine go_Pi (run_V (rest := []) E hml hl.1 (c_X3_isDone l  hV (show 0 < 2 by decide) (vp_lt hin_17)) k_X3_isDone ⟨rfl, rfl, Nat.le_of_ble_eq_true rfl, Nat.le_of_ble_eq_true rfl⟩ gw_209 gw_210 gw_211 hP (rv_tr E hP (show 0 < 2 by decide) (vp_lt hin_17)) rfl rfl (Nat.le_of_ble_eq_true rfl) ⟨Nat.zero_le _, Nat.zero_le _⟩ dX4_stop_81) ?_
        refine lv_if_eq (tgt := 97) E.1 E.2.1 dX4_stop_84 (by decide) (fun c_84 => ?_) (fun c_84 => ?_)
        · refine lv_aload E.1 E.2.1 dX4_stop_97 (lv_at hl 1 rfl) ?_
          refine lv_iload_n E.1 E.2.1 dX4_stop_99 rfl (lv_at hl 4 rfl) ?_
          refine lv_iload_n E.1 E.2.1 dX4_stop_100 rfl (lv_at hl 5 rfl) ?_
          refine go_Xv (run_V (rest := []) E hml hl.1 (c_X3_addStop l hA (V' := upL V 0 (addStopF S (x.toNatClampNeg) y t)) hV (show 0 < 2 by decide) (vp_lt hin_17) y t rfl) k_X3_addStop ⟨rfl, rfl, Nat.le_of_ble_eq_true rfl, Nat.le_of_ble_eq_true rfl⟩ gw_183 gw_184 gw_185 hP (rv_tr E hP (show 0 < 2 by decide) (vp_lt hin_17)) rfl rfl (Nat.le_of_ble_eq_true rfl) ⟨Nat.zero_le _, Nat.zero_le _⟩ dX4_stop_101) hS (fun H locs hP hS => ?_)
          refine lv_aload E.1 E.2.1 dX4_stop_104 (lv_at hl 1 rfl) ?_
          refine g_tr (v := .int ((addStopF S (x.toNatClampNeg) y t) 32 (x.toNatClampNeg) 0)) E hP (upL_same V 0 (addStopF S (x.toNatClampNeg) y t)) (show 0 < 2 by decide) (vp_lt hin_17) 2 (by decide) gw_192 rfl dX4_stop_106 ?_
          exact e_iX E hr hlk hP hS (fin1 hV' (by rfl)) rfl dX4_stop_109
        · exact absurd (by rw [hd]; rfl) c_84
    · exact absurd c_56 hy

abbrev rm_X4_tick : Room := { frames := 6, cells := 0, slots := 0, locals := 138 }
theorem k_X4_tick : Card yX4_tick cX4_tick 2 (some .int) 1 := ⟨gw_479, gw_2, by decide +kernel, by decide +kernel⟩
set_option maxHeartbeats 4000000 in
set_option maxRecDepth 20000 in
theorem c_X4_tick (l : Launch) {Z : Gm} (hA : AA Z) {V : Nat → St} {V' : Nat → St} {S : St} (hV : V 0 = S) (x : Int32) (h1 : ¬ x < 1) (h60 : x ≤ 60) (hL : Lim S) (hV' : upL V 0 (ticksF S x.toNatClampNeg) = V') : Met l yX4_tick (.code yX4_tick cX4_tick 2 (some .int) :: gG) rm_X4_tick (PW Z V [.ref (ad Z 0), .int x]) (QX Z (some (.int ((ticksF S x.toNatClampNeg) 6 0 0 - nI (cntTo (doneF (ticksF S x.toNatClampNeg)) (nT (ticksF S x.toNatClampNeg)))))) V') 0 0 (inW Z) := by
  refine met_of (by decide +kernel) (Nat.le_of_ble_eq_true rfl) ?_
  intro p e s m args below meth c ls E hr hlk hml hP hl
  have E : EE Z p s m args c cX4_tick RX4 := E
  have hl : lv_has ls 2 [(0, .ref (ad Z 0)), (1, .int x)] := hl
  have hS : va_S (inW Z) s.heap s.heap [] := va_S.rf
  have hT := hL.2.2
  have hR := hL.2.1
  have hB := hL.1
  refine lv_iload_n E.1 E.2.1 dX4_tick_0 rfl (lv_at hl 1 rfl) ?_
  refine lv_iconst (v := 1) E.1 E.2.1 dX4_tick_1 (by decide) ?_
  refine lv_bipush (v := 60) E.1 E.2.1 dX4_tick_2 (by decide) ?_
  refine go_Pv (run_S (rest := []) E hml hl.1 (c_X4_needWithin l (V := V) x 1 60 h1 h60) k_X4_needWithin ⟨rfl, rfl, Nat.le_of_ble_eq_true rfl, Nat.le_of_ble_eq_true rfl⟩ gw_69 gw_70 hP  rfl rfl (Nat.le_of_ble_eq_true rfl) ⟨Nat.zero_le _, Nat.zero_le _⟩ dX4_tick_4) ?_
  refine lv_aload_n E.1 E.2.1 dX4_tick_7 rfl (lv_at hl 0 rfl) ?_
  refine g_bay E hP 0 (by decide) gw_13 dX4_tick_8 ?_
  refine lv_iload_n E.1 E.2.1 dX4_tick_11 rfl (lv_at hl 1 rfl) ?_
  refine go_Xv (run_V (rest := []) E hml hl.1 (c_X1_passTicks l hA (V' := upL V 0 (ticksF S (x : Int32).toNatClampNeg)) hV (show 0 < 2 by decide) x hL rfl) k_X1_passTicks ⟨rfl, rfl, Nat.le_of_ble_eq_true rfl, Nat.le_of_ble_eq_true rfl⟩ gw_368 gw_369 gw_370 hP (rv_ln E hP (show 0 < 2 by decide)) rfl rfl (Nat.le_of_ble_eq_true rfl) ⟨Nat.zero_le _, Nat.zero_le _⟩ dX4_tick_12) hS (fun H locs hP hS => ?_)
  refine lv_aload_n E.1 E.2.1 dX4_tick_15 rfl (lv_at hl 0 rfl) ?_
  refine g_bay E hP 0 (by decide) gw_13 dX4_tick_16 ?_
  refine g_ln (v := .int ((ticksF S (x : Int32).toNatClampNeg) 6 0 0)) E hP (upL_same V 0 (ticksF S (x : Int32).toNatClampNeg)) (show 0 < 2 by decide) 6 (by decide) gw_170 rfl dX4_tick_19 ?_
  refine lv_aload_n E.1 E.2.1 dX4_tick_22 rfl (lv_at hl 0 rfl) ?_
  refine g_bay E hP 0 (by decide) gw_13 dX4_tick_23 ?_
  refine go_Pi (run_V (rest := [.int ((ticksF S (x : Int32).toNatClampNeg) 6 0 0)]) E hml hl.1 (c_X1_countDone l  (upL_same V 0 (ticksF S (x : Int32).toNatClampNeg)) (show 0 < 2 by decide) (Lim_of (KC_ticks (KC_refl _)) hL)) k_X1_countDone ⟨rfl, rfl, Nat.le_of_ble_eq_true rfl, Nat.le_of_ble_eq_true rfl⟩ gw_236 gw_237 gw_238 hP (rv_ln E hP (show 0 < 2 by decide)) rfl rfl (Nat.le_of_ble_eq_true rfl) ⟨Nat.zero_le _, Nat.zero_le _⟩ dX4_tick_26) ?_
  refine lv_isub E.1 E.2.1 dX4_tick_29 ?_
  exact e_iX E hr hlk hP hS (fin1 hV' (by rfl)) rfl dX4_tick_30

abbrev rm_X4_doneIn : Room := { frames := 6, cells := 0, slots := 0, locals := 138 }
theorem k_X4_doneIn : Card yX4_doneIn cX4_doneIn 4 (some .int) 2 := ⟨gw_475, gw_2, by decide +kernel, by decide +kernel⟩
set_option maxHeartbeats 4000000 in
set_option maxRecDepth 20000 in
theorem c_X4_doneIn (l : Launch) {Z : Gm} (hA : AA Z) {V : Nat → St} {V' : Nat → St} {U S : St} (hV0 : V 0 = S) (hV1 : V 1 = U) (x : Int32) (h0 : ¬ x < 0) (h1 : x < S 6 0 0) (hL : Lim S) (hz : ∀ k, k < nR S → S 22 k 0 = 0 ∨ S 22 k 0 = 1)  (hV' : upL V 1 (doneInS (takeF U S) x.toNatClampNeg) = V') : Met l yX4_doneIn (.code yX4_doneIn cX4_doneIn 4 (some .int) :: gG) rm_X4_doneIn (PW Z V [.ref (ad Z 0), .int x, .int 1]) (QX Z (some (.int (doneInF (takeF U S) x.toNatClampNeg))) V') 0 0 (inW Z) := by
  refine met_of (by decide +kernel) (Nat.le_of_ble_eq_true rfl) ?_
  intro p e s m args below meth c ls E hr hlk hml hP hl
  have E : EE Z p s m args c cX4_doneIn RX4 := E
  have hl : lv_has ls 4 [(0, .ref (ad Z 0)), (1, .int x), (2, .int 1)] := hl
  have hS : va_S (inW Z) s.heap s.heap [] := va_S.rf
  have hT := hL.2.2
  have hR := hL.2.1
  have hB := hL.1
  refine lv_aload_n E.1 E.2.1 dX4_doneIn_0 rfl (lv_at hl 0 rfl) ?_
  refine lv_iload_n E.1 E.2.1 dX4_doneIn_1 rfl (lv_at hl 1 rfl) ?_
  refine go_Pv (run_V (rest := []) E hml hl.1 (c_X4_needTrain l  hV0 x h0 h1) k_X4_needTrain ⟨rfl, rfl, Nat.le_of_ble_eq_true rfl, Nat.le_of_ble_eq_true rfl⟩ gw_193 gw_194 gw_195 hP (rv_bay E hP) rfl rfl (Nat.le_of_ble_eq_true rfl) ⟨Nat.zero_le _, Nat.zero_le _⟩ dX4_doneIn_2) ?_
  refine lv_iload_n E.1 E.2.1 dX4_doneIn_5 rfl (lv_at hl 2 rfl) ?_
  refine lv_iconst (v := 1) E.1 E.2.1 dX4_doneIn_6 (by decide) ?_
  refine lv_bipush (v := 120) E.1 E.2.1 dX4_doneIn_7 (by decide) ?_
  refine go_Pv (run_S (rest := []) E hml hl.1 (c_X4_needWithin l (V := V) 1 1 120 (by decide) (by decide)) k_X4_needWithin ⟨rfl, rfl, Nat.le_of_ble_eq_true rfl, Nat.le_of_ble_eq_true rfl⟩ gw_69 gw_70 hP  rfl rfl (Nat.le_of_ble_eq_true rfl) ⟨Nat.zero_le _, Nat.zero_le _⟩ dX4_doneIn_9) ?_
  refine lv_aload_n E.1 E.2.1 dX4_doneIn_12 rfl (lv_at hl 0 rfl) ?_
  refine g_bay E hP 1 (by decide) gw_14 dX4_doneIn_13 ?_
  refine lv_aload_n E.1 E.2.1 dX4_doneIn_16 rfl (lv_at hl 0 rfl) ?_
  refine g_bay E hP 0 (by decide) gw_13 dX4_doneIn_17 ?_
  refine go_Xv (run_V (rest := []) E hml hl.1 (c_X1_takeFrom l hA (V' := upL V 1 (takeF U S)) hV0 hV1 hL hz rfl) k_X1_takeFrom ⟨rfl, rfl, Nat.le_of_ble_eq_true rfl, Nat.le_of_ble_eq_true rfl⟩ gw_335 gw_336 gw_337 hP (rv_ln E hP (show 1 < 2 by decide)) rfl rfl (Nat.le_of_ble_eq_true rfl) ⟨Nat.zero_le _, Nat.zero_le _⟩ dX4_doneIn_20) hS (fun H locs hP hS => ?_)
  refine lv_iconst (v := 0) E.1 E.2.1 dX4_doneIn_23 (by decide) ?_
  refine lv_istore_n (lv' := [(3, .int 0), (0, .ref (ad Z 0)), (1, .int x), (2, .int 1)]) E.1 E.2.1 dX4_doneIn_24 rfl hl (by decide) rfl (fun ls hl => ?_)
  refine lv_iload_n E.1 E.2.1 dX4_doneIn_25 rfl (lv_at hl 0 rfl) ?_
  refine lv_iload_n E.1 E.2.1 dX4_doneIn_26 rfl (lv_at hl 3 rfl) ?_
  refine lv_icmp_ge (tgt := 59) E.1 E.2.1 dX4_doneIn_27 (by decide) (fun c_27 => ?_) (fun c_27 => ?_)
  · exact absurd c_27 (by decide)
  · refine lv_aload_n E.1 E.2.1 dX4_doneIn_30 rfl (lv_at hl 1 rfl) ?_
    refine g_bay E hP 1 (by decide) gw_14 dX4_doneIn_31 ?_
    refine g_ln E hP (upL_same V 1 (takeF U S)) (show 1 < 2 by decide) 5 (by decide) gw_171 rfl dX4_doneIn_34 ?_
    refine lv_iload_n E.1 E.2.1 dX4_doneIn_37 rfl (lv_at hl 2 rfl) ?_
    have hin_38 : vp_in x 8 := vinL h0 h1 (clamp_le hT)
    refine a_tr (k := (x.toNatClampNeg)) E hP (show 1 < 2 by decide) rfl hin_38 dX4_doneIn_38 ?_
    refine go_Pi (run_V (rest := []) E hml hl.1 (c_X3_isDone l  (upL_same V 1 (takeF U S)) (show 1 < 2 by decide) (vp_lt hin_38)) k_X3_isDone ⟨rfl, rfl, Nat.le_of_ble_eq_true rfl, Nat.le_of_ble_eq_true rfl⟩ gw_209 gw_210 gw_211 hP (rv_tr E hP (show 1 < 2 by decide) (vp_lt hin_38)) rfl rfl (Nat.le_of_ble_eq_true rfl) ⟨Nat.zero_le _, Nat.zero_le _⟩ dX4_doneIn_39) ?_
    refine lv_if_ne (tgt := 59) E.1 E.2.1 dX4_doneIn_42 (by decide) (fun c_42 => ?_) (fun c_42 => ?_)
    · refine lv_aload_n E.1 E.2.1 dX4_doneIn_59 rfl (lv_at hl 1 rfl) ?_
      refine g_bay E hP 1 (by decide) gw_14 dX4_doneIn_60 ?_
      refine g_ln E hP (upL_same V 1 (takeF U S)) (show 1 < 2 by decide) 5 (by decide) gw_171 rfl dX4_doneIn_63 ?_
      refine lv_iload_n E.1 E.2.1 dX4_doneIn_66 rfl (lv_at hl 2 rfl) ?_
      have hin_67 : vp_in x 8 := vinL h0 h1 (clamp_le hT)
      refine a_tr (k := (x.toNatClampNeg)) E hP (show 1 < 2 by decide) rfl hin_67 dX4_doneIn_67 ?_
      refine go_Pi (run_V (rest := []) E hml hl.1 (c_X3_isDone l  (upL_same V 1 (takeF U S)) (show 1 < 2 by decide) (vp_lt hin_67)) k_X3_isDone ⟨rfl, rfl, Nat.le_of_ble_eq_true rfl, Nat.le_of_ble_eq_true rfl⟩ gw_209 gw_210 gw_211 hP (rv_tr E hP (show 1 < 2 by decide) (vp_lt hin_67)) rfl rfl (Nat.le_of_ble_eq_true rfl) ⟨Nat.zero_le _, Nat.zero_le _⟩ dX4_doneIn_68) ?_
      refine lv_if_eq (tgt := 78) E.1 E.2.1 dX4_doneIn_71 (by decide) (fun c_71 => ?_) (fun c_71 => ?_)
      · refine lv_iconst (v := (-1)) E.1 E.2.1 dX4_doneIn_78 (by decide) ?_
        exact e_iX E hr hlk hP hS (fin1 hV' (by simp [doneInS, c_42, (b2i_t c_42), c_71, (b2i_f c_71)]; try rfl)) (by first | exact absurd c_71 c_42 | simp [doneInF, c_42, (b2i_t c_42), c_71, (b2i_f c_71)]) dX4_doneIn_79
      · refine lv_iload_n E.1 E.2.1 dX4_doneIn_74 rfl (lv_at hl 0 rfl) ?_
        refine lv_goto (tgt := 79) E.1 E.2.1 dX4_doneIn_75 (by decide) ?_
        exact e_iX E hr hlk hP hS (fin1 hV' (by simp [doneInS, c_42, (b2i_t c_42), c_71, (b2i_t c_71)]; try rfl)) (by first | exact absurd c_71 c_42 | simp [doneInF, c_42, (b2i_t c_42), c_71, (b2i_t c_71)]) dX4_doneIn_79
    · refine lv_aload_n E.1 E.2.1 dX4_doneIn_45 rfl (lv_at hl 1 rfl) ?_
      refine g_bay E hP 1 (by decide) gw_14 dX4_doneIn_46 ?_
      refine lv_iconst (v := 1) E.1 E.2.1 dX4_doneIn_49 (by decide) ?_
      refine go_Xv (run_V (rest := []) E hml hl.1 (c_X1_passTicks l hA (V' := upL V 1 (tickF (takeF U S))) (upL_same V 1 (takeF U S)) (show 1 < 2 by decide) 1 (Lim_of (KC_take _ _) hL) (by rw [ticks1]; exact (upL_upL V 1 _ _))) k_X1_passTicks ⟨rfl, rfl, Nat.le_of_ble_eq_true rfl, Nat.le_of_ble_eq_true rfl⟩ gw_368 gw_369 gw_370 hP (rv_ln E hP (show 1 < 2 by decide)) rfl rfl (Nat.le_of_ble_eq_true rfl) ⟨Nat.zero_le _, Nat.zero_le _⟩ dX4_doneIn_50) hS (fun H locs hP hS => ?_)
      refine lv_iinc (v := 1) (lv' := [(3, .int 1), (0, .ref (ad Z 0)), (1, .int x), (2, .int 1)]) E.1 E.2.1 dX4_doneIn_53 hl (k := 0) rfl (by decide) (by decide) rfl (fun ls hl => ?_)
      refine lv_goto (tgt := 25) E.1 E.2.1 dX4_doneIn_56 (by decide) ?_
      refine lv_iload_n E.1 E.2.1 dX4_doneIn_25 rfl (lv_at hl 0 rfl) ?_
      refine lv_iload_n E.1 E.2.1 dX4_doneIn_26 rfl (lv_at hl 3 rfl) ?_
      refine lv_icmp_ge (tgt := 59) E.1 E.2.1 dX4_doneIn_27 (by decide) (fun c_27 => ?_) (fun c_27 => ?_)
      · refine lv_aload_n E.1 E.2.1 dX4_doneIn_59 rfl (lv_at hl 1 rfl) ?_
        refine g_bay E hP 1 (by decide) gw_14 dX4_doneIn_60 ?_
        refine g_ln E hP (upL_same V 1 (tickF (takeF U S))) (show 1 < 2 by decide) 5 (by decide) gw_171 rfl dX4_doneIn_63 ?_
        refine lv_iload_n E.1 E.2.1 dX4_doneIn_66 rfl (lv_at hl 2 rfl) ?_
        have hin_67 : vp_in x 8 := vinL h0 h1 (clamp_le hT)
        refine a_tr (k := (x.toNatClampNeg)) E hP (show 1 < 2 by decide) rfl hin_67 dX4_doneIn_67 ?_
        refine go_Pi (run_V (rest := []) E hml hl.1 (c_X3_isDone l  (upL_same V 1 (tickF (takeF U S))) (show 1 < 2 by decide) (vp_lt hin_67)) k_X3_isDone ⟨rfl, rfl, Nat.le_of_ble_eq_true rfl, Nat.le_of_ble_eq_true rfl⟩ gw_209 gw_210 gw_211 hP (rv_tr E hP (show 1 < 2 by decide) (vp_lt hin_67)) rfl rfl (Nat.le_of_ble_eq_true rfl) ⟨Nat.zero_le _, Nat.zero_le _⟩ dX4_doneIn_68) ?_
        refine lv_if_eq (tgt := 78) E.1 E.2.1 dX4_doneIn_71 (by decide) (fun c_71 => ?_) (fun c_71 => ?_)
        · refine lv_iconst (v := (-1)) E.1 E.2.1 dX4_doneIn_78 (by decide) ?_
          exact e_iX E hr hlk hP hS (fin1 hV' (by simp [doneInS, c_42, (b2i_f c_42), c_71, (b2i_f c_71)]; try rfl)) (by first | exact absurd c_71 c_42 | simp [doneInF, c_42, (b2i_f c_42), c_71, (b2i_f c_71)]) dX4_doneIn_79
        · refine lv_iload_n E.1 E.2.1 dX4_doneIn_74 rfl (lv_at hl 0 rfl) ?_
          refine lv_goto (tgt := 79) E.1 E.2.1 dX4_doneIn_75 (by decide) ?_
          exact e_iX E hr hlk hP hS (fin1 hV' (by simp [doneInS, c_42, (b2i_f c_42), c_71, (b2i_t c_71)]; try rfl)) (by first | exact absurd c_71 c_42 | simp [doneInF, c_42, (b2i_f c_42), c_71, (b2i_t c_71)]) dX4_doneIn_79
      · exact absurd (by decide) c_27

abbrev rm_X4_stuckIn : Room := { frames := 6, cells := 0, slots := 0, locals := 138 }
theorem k_X4_stuckIn : Card yX4_stuckIn cX4_stuckIn 3 (some .int) 1 := ⟨gw_334, gw_2, by decide +kernel, by decide +kernel⟩
set_option maxHeartbeats 4000000 in
set_option maxRecDepth 20000 in
theorem c_X4_stuckIn (l : Launch) {Z : Gm} (hA : AA Z) {V : Nat → St} {V' : Nat → St} {U S : St} (hV0 : V 0 = S) (hV1 : V 1 = U) (hL : Lim S) (hz : ∀ k, k < nR S → S 22 k 0 = 0 ∨ S 22 k 0 = 1)  (hV' : upL V 1 (stuckInS (takeF U S)) = V') : Met l yX4_stuckIn (.code yX4_stuckIn cX4_stuckIn 3 (some .int) :: gG) rm_X4_stuckIn (PW Z V [.ref (ad Z 0), .int 1]) (QX Z (some (.int (stuckInF (takeF U S)))) V') 0 0 (inW Z) := by
  refine met_of (by decide +kernel) (Nat.le_of_ble_eq_true rfl) ?_
  intro p e s m args below meth c ls E hr hlk hml hP hl
  have E : EE Z p s m args c cX4_stuckIn RX4 := E
  have hl : lv_has ls 3 [(0, .ref (ad Z 0)), (1, .int 1)] := hl
  have hS : va_S (inW Z) s.heap s.heap [] := va_S.rf
  have hT := hL.2.2
  have hR := hL.2.1
  have hB := hL.1
  refine lv_iload_n E.1 E.2.1 dX4_stuckIn_0 rfl (lv_at hl 1 rfl) ?_
  refine lv_iconst (v := 1) E.1 E.2.1 dX4_stuckIn_1 (by decide) ?_
  refine lv_bipush (v := 120) E.1 E.2.1 dX4_stuckIn_2 (by decide) ?_
  refine go_Pv (run_S (rest := []) E hml hl.1 (c_X4_needWithin l (V := V) 1 1 120 (by decide) (by decide)) k_X4_needWithin ⟨rfl, rfl, Nat.le_of_ble_eq_true rfl, Nat.le_of_ble_eq_true rfl⟩ gw_69 gw_70 hP  rfl rfl (Nat.le_of_ble_eq_true rfl) ⟨Nat.zero_le _, Nat.zero_le _⟩ dX4_stuckIn_4) ?_
  refine lv_aload_n E.1 E.2.1 dX4_stuckIn_7 rfl (lv_at hl 0 rfl) ?_
  refine g_bay E hP 1 (by decide) gw_14 dX4_stuckIn_8 ?_
  refine lv_aload_n E.1 E.2.1 dX4_stuckIn_11 rfl (lv_at hl 0 rfl) ?_
  refine g_bay E hP 0 (by decide) gw_13 dX4_stuckIn_12 ?_
  refine go_Xv (run_V (rest := []) E hml hl.1 (c_X1_takeFrom l hA (V' := upL V 1 (takeF U S)) hV0 hV1 hL hz rfl) k_X1_takeFrom ⟨rfl, rfl, Nat.le_of_ble_eq_true rfl, Nat.le_of_ble_eq_true rfl⟩ gw_335 gw_336 gw_337 hP (rv_ln E hP (show 1 < 2 by decide)) rfl rfl (Nat.le_of_ble_eq_true rfl) ⟨Nat.zero_le _, Nat.zero_le _⟩ dX4_stuckIn_15) hS (fun H locs hP hS => ?_)
  refine lv_iconst (v := 0) E.1 E.2.1 dX4_stuckIn_18 (by decide) ?_
  refine lv_istore_n (lv' := [(2, .int 0), (0, .ref (ad Z 0)), (1, .int 1)]) E.1 E.2.1 dX4_stuckIn_19 rfl hl (by decide) rfl (fun ls hl => ?_)
  refine lv_iload_n E.1 E.2.1 dX4_stuckIn_20 rfl (lv_at hl 0 rfl) ?_
  refine lv_iload_n E.1 E.2.1 dX4_stuckIn_21 rfl (lv_at hl 2 rfl) ?_
  refine lv_icmp_ge (tgt := 49) E.1 E.2.1 dX4_stuckIn_22 (by decide) (fun c_22 => ?_) (fun c_22 => ?_)
  · exact absurd c_22 (by decide)
  · refine lv_aload_n E.1 E.2.1 dX4_stuckIn_25 rfl (lv_at hl 1 rfl) ?_
    refine g_bay E hP 1 (by decide) gw_14 dX4_stuckIn_26 ?_
    refine go_Pi (run_V (rest := []) E hml hl.1 (c_X1_countStuck l  (upL_same V 1 (takeF U S)) (show 1 < 2 by decide) (Lim_of (KC_take _ _) hL)) k_X1_countStuck ⟨rfl, rfl, Nat.le_of_ble_eq_true rfl, Nat.le_of_ble_eq_true rfl⟩ gw_257 gw_258 gw_259 hP (rv_ln E hP (show 1 < 2 by decide)) rfl rfl (Nat.le_of_ble_eq_true rfl) ⟨Nat.zero_le _, Nat.zero_le _⟩ dX4_stuckIn_29) ?_
    refine lv_if_ne (tgt := 49) E.1 E.2.1 dX4_stuckIn_32 (by decide) (fun c_32 => ?_) (fun c_32 => ?_)
    · refine lv_aload_n E.1 E.2.1 dX4_stuckIn_49 rfl (lv_at hl 1 rfl) ?_
      refine g_bay E hP 1 (by decide) gw_14 dX4_stuckIn_50 ?_
      refine go_Pi (run_V (rest := []) E hml hl.1 (c_X1_countStuck l  (upL_same V 1 (takeF U S)) (show 1 < 2 by decide) (Lim_of (KC_take _ _) hL)) k_X1_countStuck ⟨rfl, rfl, Nat.le_of_ble_eq_true rfl, Nat.le_of_ble_eq_true rfl⟩ gw_257 gw_258 gw_259 hP (rv_ln E hP (show 1 < 2 by decide)) rfl rfl (Nat.le_of_ble_eq_true rfl) ⟨Nat.zero_le _, Nat.zero_le _⟩ dX4_stuckIn_53) ?_
      refine lv_if_le (tgt := 63) E.1 E.2.1 dX4_stuckIn_56 (by decide) (fun c_56 => ?_) (fun c_56 => ?_)
      · refine lv_iconst (v := (-1)) E.1 E.2.1 dX4_stuckIn_63 (by decide) ?_
        exact e_iX E hr hlk hP hS (fin1 hV' (by simp [stuckInS, c_32, c_56]; try rfl)) (by simp [stuckInF, c_32, c_56]) dX4_stuckIn_64
      · refine lv_iload_n E.1 E.2.1 dX4_stuckIn_59 rfl (lv_at hl 0 rfl) ?_
        refine lv_goto (tgt := 64) E.1 E.2.1 dX4_stuckIn_60 (by decide) ?_
        exact e_iX E hr hlk hP hS (fin1 hV' (by simp [stuckInS, c_32, c_56]; try rfl)) (by simp [stuckInF, c_32, c_56]) dX4_stuckIn_64
    · refine lv_aload_n E.1 E.2.1 dX4_stuckIn_35 rfl (lv_at hl 1 rfl) ?_
      refine g_bay E hP 1 (by decide) gw_14 dX4_stuckIn_36 ?_
      refine lv_iconst (v := 1) E.1 E.2.1 dX4_stuckIn_39 (by decide) ?_
      refine go_Xv (run_V (rest := []) E hml hl.1 (c_X1_passTicks l hA (V' := upL V 1 (tickF (takeF U S))) (upL_same V 1 (takeF U S)) (show 1 < 2 by decide) 1 (Lim_of (KC_take _ _) hL) (by rw [ticks1]; exact (upL_upL V 1 _ _))) k_X1_passTicks ⟨rfl, rfl, Nat.le_of_ble_eq_true rfl, Nat.le_of_ble_eq_true rfl⟩ gw_368 gw_369 gw_370 hP (rv_ln E hP (show 1 < 2 by decide)) rfl rfl (Nat.le_of_ble_eq_true rfl) ⟨Nat.zero_le _, Nat.zero_le _⟩ dX4_stuckIn_40) hS (fun H locs hP hS => ?_)
      refine lv_iinc (v := 1) (lv' := [(2, .int 1), (0, .ref (ad Z 0)), (1, .int 1)]) E.1 E.2.1 dX4_stuckIn_43 hl (k := 0) rfl (by decide) (by decide) rfl (fun ls hl => ?_)
      refine lv_goto (tgt := 20) E.1 E.2.1 dX4_stuckIn_46 (by decide) ?_
      refine lv_iload_n E.1 E.2.1 dX4_stuckIn_20 rfl (lv_at hl 0 rfl) ?_
      refine lv_iload_n E.1 E.2.1 dX4_stuckIn_21 rfl (lv_at hl 2 rfl) ?_
      refine lv_icmp_ge (tgt := 49) E.1 E.2.1 dX4_stuckIn_22 (by decide) (fun c_22 => ?_) (fun c_22 => ?_)
      · refine lv_aload_n E.1 E.2.1 dX4_stuckIn_49 rfl (lv_at hl 1 rfl) ?_
        refine g_bay E hP 1 (by decide) gw_14 dX4_stuckIn_50 ?_
        refine go_Pi (run_V (rest := []) E hml hl.1 (c_X1_countStuck l  (upL_same V 1 (tickF (takeF U S))) (show 1 < 2 by decide) (Lim_of (KC_tick (KC_take _ _)) hL)) k_X1_countStuck ⟨rfl, rfl, Nat.le_of_ble_eq_true rfl, Nat.le_of_ble_eq_true rfl⟩ gw_257 gw_258 gw_259 hP (rv_ln E hP (show 1 < 2 by decide)) rfl rfl (Nat.le_of_ble_eq_true rfl) ⟨Nat.zero_le _, Nat.zero_le _⟩ dX4_stuckIn_53) ?_
        refine lv_if_le (tgt := 63) E.1 E.2.1 dX4_stuckIn_56 (by decide) (fun c_56 => ?_) (fun c_56 => ?_)
        · refine lv_iconst (v := (-1)) E.1 E.2.1 dX4_stuckIn_63 (by decide) ?_
          exact e_iX E hr hlk hP hS (fin1 hV' (by simp [stuckInS, c_32, c_56]; try rfl)) (by simp [stuckInF, c_32, c_56]) dX4_stuckIn_64
        · refine lv_iload_n E.1 E.2.1 dX4_stuckIn_59 rfl (lv_at hl 0 rfl) ?_
          refine lv_goto (tgt := 64) E.1 E.2.1 dX4_stuckIn_60 (by decide) ?_
          exact e_iX E hr hlk hP hS (fin1 hV' (by simp [stuckInS, c_32, c_56]; try rfl)) (by simp [stuckInF, c_32, c_56]) dX4_stuckIn_64
      · exact absurd (by decide) c_22
end
section
/-! The checksum. -/
abbrev rm_X4_mixedWithTrain : Room := { frames := 3, cells := 0, slots := 0, locals := 66 }
theorem k_X4_mixedWithTrain : Card yX4_mixedWithTrain cX4_mixedWithTrain 7 (some .long) 2 := ⟨gw_282, gw_2, by decide +kernel, by decide +kernel⟩
set_option maxHeartbeats 4000000 in
set_option maxRecDepth 20000 in
theorem c_X4_mixedWithTrain (l : Launch) {Z : Gm} {V : Nat → St} {S : St} (hV : V 0 = S) (d0 : Int64) (t : Nat) (ht : t < nT S) (hL : Lim S) : Met l yX4_mixedWithTrain (.code yX4_mixedWithTrain cX4_mixedWithTrain 7 (some .long) :: gG) rm_X4_mixedWithTrain (PW Z V [.ref (ad Z 0), .long d0, .int (nI t)]) (QP (some (.long (trainD S t d0)))) 0 0 (fun _ => False) := by
  refine met_of (by decide +kernel) (Nat.le_of_ble_eq_true rfl) ?_
  intro p e s m args below meth c ls E hr hlk hml hP hl
  have E : EE Z p s m args c cX4_mixedWithTrain RX4 := E
  have hl : lv_has ls 7 [(0, .ref (ad Z 0)), (1, .long d0), (3, .int (nI t))] := hl
  have hT := hL.2.2
  have hR := hL.2.1
  have hB := hL.1
  have hct : (nI t).toNatClampNeg = t := nI_clamp (by omega)
  refine lv_lload_n E.1 E.2.1 dX4_mixedWithTrain_0 rfl (lv_at hl 1 rfl) ?_
  refine lv_lstore (lv' := [(4, .long d0), (0, .ref (ad Z 0)), (1, .long d0), (3, .int (nI t))]) E.1 E.2.1 dX4_mixedWithTrain_1 hl (by decide) rfl (fun ls hl => ?_)
  refine lv_iconst (v := 0) E.1 E.2.1 dX4_mixedWithTrain_3 (by decide) ?_
  refine lv_istore (lv' := [(6, .int 0), (4, .long d0), (0, .ref (ad Z 0)), (1, .long d0), (3, .int (nI t))]) E.1 E.2.1 dX4_mixedWithTrain_4 hl (by decide) rfl (fun ls hl => ?_)
  have loop_6 : ∀ (n_6 : Nat) (d : Int64) (j : Nat), 13 - j < n_6 → (d = digL (trainQ S t) j d0) → (j ≤ 13) → ∀ (ls : Array Slot), lv_has ls 7 [(6, .int (nI j)), (4, .long d), (0, .ref (ad Z 0)), (1, .long d0), (3, .int (nI t))] → W p l e rm_X4_mixedWithTrain s m args below meth c s.heap [] 0 0 (MQ below (QP (some (.long (trainD S t d0)))) args s 0 0 (fun _ => False)) (F0 m 6 ls []) := by
    intro n_6
    induction n_6 with
    | zero => intro d j hm_6; exact absurd hm_6 (by omega)
    | succ n_6 ih_6 =>
      intro d j hm_6 ha hj  ls hl
      refine lv_iload E.1 E.2.1 dX4_mixedWithTrain_6 (lv_at hl 0 rfl) ?_
      refine lv_bipush (v := 12) E.1 E.2.1 dX4_mixedWithTrain_8 (by decide) ?_
      refine lv_icmp_gt (tgt := 33) E.1 E.2.1 dX4_mixedWithTrain_10 (by decide) (fun c_10 => ?_) (fun c_10 => ?_)
      · have hd : 12 < j := (nI_ltI (a := 12) (by omega) (by omega)).mp c_10
        refine lv_lload E.1 E.2.1 dX4_mixedWithTrain_33 (lv_at hl 1 rfl) ?_
        refine lv_aload_n E.1 E.2.1 dX4_mixedWithTrain_35 rfl (lv_at hl 2 rfl) ?_
        refine lv_iload_n E.1 E.2.1 dX4_mixedWithTrain_36 rfl (lv_at hl 4 rfl) ?_
        refine go_Pi (run_V (rest := [.long d]) E hml hl.1 (c_X4_waitsFor l  hV (nI t) (nI_lt0 (by omega)) (nI_ltc ht) hL) k_X4_waitsFor ⟨rfl, rfl, Nat.le_of_ble_eq_true rfl, Nat.le_of_ble_eq_true rfl⟩ gw_316 gw_317 gw_318 hP (rv_bay E hP) rfl rfl (Nat.le_of_ble_eq_true rfl) ⟨Nat.zero_le _, Nat.zero_le _⟩ dX4_mixedWithTrain_37) ?_
        refine go_Pl (run_S (rest := []) E hml hl.1 (c_X4_mixed l (V := V) d (S 44 (nI t).toNatClampNeg 0)) k_X4_mixed ⟨rfl, rfl, Nat.le_of_ble_eq_true rfl, Nat.le_of_ble_eq_true rfl⟩ gw_228 gw_229 hP  rfl rfl (Nat.le_of_ble_eq_true rfl) ⟨Nat.zero_le _, Nat.zero_le _⟩ dX4_mixedWithTrain_40) ?_
        refine lv_lstore (lv' := [(4, .long (mixF d (S 44 (nI t).toNatClampNeg 0))), (6, .int (nI j)), (0, .ref (ad Z 0)), (1, .long d0), (3, .int (nI t))]) E.1 E.2.1 dX4_mixedWithTrain_43 hl (by decide) rfl (fun ls hl => ?_)
        refine lv_lload E.1 E.2.1 dX4_mixedWithTrain_45 (lv_at hl 0 rfl) ?_
        refine lv_aload_n E.1 E.2.1 dX4_mixedWithTrain_47 rfl (lv_at hl 2 rfl) ?_
        refine lv_iload_n E.1 E.2.1 dX4_mixedWithTrain_48 rfl (lv_at hl 4 rfl) ?_
        refine go_Pi (run_V (rest := [.long (mixF d (S 44 (nI t).toNatClampNeg 0))]) E hml hl.1 (c_X4_isStuck l  hV t (by omega) hL) k_X4_isStuck ⟨rfl, rfl, Nat.le_of_ble_eq_true rfl, Nat.le_of_ble_eq_true rfl⟩ gw_321 gw_322 gw_323 hP (rv_bay E hP) rfl rfl (Nat.le_of_ble_eq_true rfl) ⟨Nat.zero_le _, Nat.zero_le _⟩ dX4_mixedWithTrain_49) ?_
        refine go_Pi (run_S (rest := [.long (mixF d (S 44 (nI t).toNatClampNeg 0))]) E hml hl.1 (c_X4_oneIf l (V := V) (b2i (stuckF S t))) k_X4_oneIf ⟨rfl, rfl, Nat.le_of_ble_eq_true rfl, Nat.le_of_ble_eq_true rfl⟩ gw_116 gw_117 hP  rfl rfl (Nat.le_of_ble_eq_true rfl) ⟨Nat.zero_le _, Nat.zero_le _⟩ dX4_mixedWithTrain_52) ?_
        refine go_Pl (run_S (rest := []) E hml hl.1 (c_X4_mixed l (V := V) (mixF d (S 44 (nI t).toNatClampNeg 0)) (oneF (b2i (stuckF S t)))) k_X4_mixed ⟨rfl, rfl, Nat.le_of_ble_eq_true rfl, Nat.le_of_ble_eq_true rfl⟩ gw_228 gw_229 hP  rfl rfl (Nat.le_of_ble_eq_true rfl) ⟨Nat.zero_le _, Nat.zero_le _⟩ dX4_mixedWithTrain_55) ?_
        refine lv_lstore (lv' := [(4, .long (mixF (mixF d (S 44 (nI t).toNatClampNeg 0)) (oneF (b2i (stuckF S t))))), (6, .int (nI j)), (0, .ref (ad Z 0)), (1, .long d0), (3, .int (nI t))]) E.1 E.2.1 dX4_mixedWithTrain_58 hl (by decide) rfl (fun ls hl => ?_)
        refine lv_iconst (v := 0) E.1 E.2.1 dX4_mixedWithTrain_60 (by decide) ?_
        refine lv_istore (lv' := [(6, .int 0), (4, .long (mixF (mixF d (S 44 (nI t).toNatClampNeg 0)) (oneF (b2i (stuckF S t))))), (0, .ref (ad Z 0)), (1, .long d0), (3, .int (nI t))]) E.1 E.2.1 dX4_mixedWithTrain_61 hl (by decide) rfl (fun ls hl => ?_)
        have loop_63 : ∀ (n_63 : Nat) (d : Int64) (o : Nat), nT S - o < n_63 → (d = digL (fun o => S 45 t o) o (mixF (mixF (digL (trainQ S t) 13 d0) (S 44 t 0)) (oneF (b2i (stuckF S t))))) → (o ≤ nT S) → ∀ (ls : Array Slot), lv_has ls 7 [(6, .int (nI o)), (4, .long d), (0, .ref (ad Z 0)), (1, .long d0), (3, .int (nI t))] → W p l e rm_X4_mixedWithTrain s m args below meth c s.heap [] 0 0 (MQ below (QP (some (.long (trainD S t d0)))) args s 0 0 (fun _ => False)) (F0 m 63 ls []) := by
          intro n_63
          induction n_63 with
          | zero => intro d o hm_63; exact absurd hm_63 (by omega)
          | succ n_63 ih_63 =>
            intro d o hm_63 hb ho  ls hl
            refine lv_iload E.1 E.2.1 dX4_mixedWithTrain_63 (lv_at hl 0 rfl) ?_
            refine lv_aload_n E.1 E.2.1 dX4_mixedWithTrain_65 rfl (lv_at hl 2 rfl) ?_
            refine g_bay E hP 0 (by decide) gw_13 dX4_mixedWithTrain_66 ?_
            refine g_ln (v := .int (S 6 0 0)) E hP hV (show 0 < 2 by decide) 6 (by decide) gw_170 rfl dX4_mixedWithTrain_69 ?_
            refine lv_icmp_ge (tgt := 95) E.1 E.2.1 dX4_mixedWithTrain_72 (by decide) (fun c_72 => ?_) (fun c_72 => ?_)
            · have hd : nT S ≤ o := lq1 (by omega) c_72
              refine lv_lload E.1 E.2.1 dX4_mixedWithTrain_95 (lv_at hl 1 rfl) ?_
              exact e_lP E hr hlk (by rw [hb, show o = nT S from by omega]; rfl) dX4_mixedWithTrain_97
            · have hd : o < nT S := lq2 (by omega) c_72
              refine lv_lload E.1 E.2.1 dX4_mixedWithTrain_75 (lv_at hl 1 rfl) ?_
              refine lv_aload_n E.1 E.2.1 dX4_mixedWithTrain_77 rfl (lv_at hl 2 rfl) ?_
              refine lv_iload_n E.1 E.2.1 dX4_mixedWithTrain_78 rfl (lv_at hl 4 rfl) ?_
              refine lv_iload E.1 E.2.1 dX4_mixedWithTrain_79 (lv_at hl 0 rfl) ?_
              refine go_Pi (run_V (rest := [.long d]) E hml hl.1 (c_X4_waitedFor l  hV (nI t) (nI_lt0 (by omega)) (nI_ltc ht) (nI o) (nI_lt0 (by omega)) (nI_ltc hd) hL) k_X4_waitedFor ⟨rfl, rfl, Nat.le_of_ble_eq_true rfl, Nat.le_of_ble_eq_true rfl⟩ gw_326 gw_327 gw_328 hP (rv_bay E hP) rfl rfl (Nat.le_of_ble_eq_true rfl) ⟨Nat.zero_le _, Nat.zero_le _⟩ dX4_mixedWithTrain_81) ?_
              refine go_Pl (run_S (rest := []) E hml hl.1 (c_X4_mixed l (V := V) d (S 45 (nI t).toNatClampNeg (nI o).toNatClampNeg)) k_X4_mixed ⟨rfl, rfl, Nat.le_of_ble_eq_true rfl, Nat.le_of_ble_eq_true rfl⟩ gw_228 gw_229 hP  rfl rfl (Nat.le_of_ble_eq_true rfl) ⟨Nat.zero_le _, Nat.zero_le _⟩ dX4_mixedWithTrain_84) ?_
              refine lv_lstore (lv' := [(4, .long (mixF d (S 45 (nI t).toNatClampNeg (nI o).toNatClampNeg))), (6, .int (nI o)), (0, .ref (ad Z 0)), (1, .long d0), (3, .int (nI t))]) E.1 E.2.1 dX4_mixedWithTrain_87 hl (by decide) rfl (fun ls hl => ?_)
              refine lv_iinc (v := (nI (o + 1))) (lv' := [(6, .int (nI (o + 1))), (4, .long (mixF d (S 45 (nI t).toNatClampNeg (nI o).toNatClampNeg))), (0, .ref (ad Z 0)), (1, .long d0), (3, .int (nI t))]) E.1 E.2.1 dX4_mixedWithTrain_89 hl (k := 1) rfl (nI_1 _) (by decide) rfl (fun ls hl => ?_)
              refine lv_goto (tgt := 63) E.1 E.2.1 dX4_mixedWithTrain_92 (by decide) ?_
              exact ih_63 _ (o + 1) (by omega) (by rw [hb, hct, nI_clamp (by omega)]; rfl) (by omega)  ls (lv_sub hl [0, 1, 2, 3, 4] rfl)
        exact loop_63 (nT S + 1) _ 0 (by omega) (by rw [hct, ha, show j = 13 from by omega]; rfl) (by omega)  _ (lv_sub hl [0, 1, 2, 3, 4] rfl)
      · have hd : ¬ 12 < j := fun h => c_10 ((nI_ltI (a := 12) (by omega) (by omega)).mpr h)
        refine lv_lload E.1 E.2.1 dX4_mixedWithTrain_13 (lv_at hl 1 rfl) ?_
        refine lv_aload_n E.1 E.2.1 dX4_mixedWithTrain_15 rfl (lv_at hl 2 rfl) ?_
        refine lv_iload_n E.1 E.2.1 dX4_mixedWithTrain_16 rfl (lv_at hl 4 rfl) ?_
        refine lv_iload E.1 E.2.1 dX4_mixedWithTrain_17 (lv_at hl 0 rfl) ?_
        refine go_Pi (run_V (rest := [.long d]) E hml hl.1 (c_X4_ofTrain l  hV (nI t) (nI_lt0 (by omega)) (nI_ltc ht) j (by omega) hL) k_X4_ofTrain ⟨rfl, rfl, Nat.le_of_ble_eq_true rfl, Nat.le_of_ble_eq_true rfl⟩ gw_283 gw_284 gw_285 hP (rv_bay E hP) rfl rfl (Nat.le_of_ble_eq_true rfl) ⟨Nat.zero_le _, Nat.zero_le _⟩ dX4_mixedWithTrain_19) ?_
        refine go_Pl (run_S (rest := []) E hml hl.1 (c_X4_mixed l (V := V) d (trainQ S (nI t).toNatClampNeg j)) k_X4_mixed ⟨rfl, rfl, Nat.le_of_ble_eq_true rfl, Nat.le_of_ble_eq_true rfl⟩ gw_228 gw_229 hP  rfl rfl (Nat.le_of_ble_eq_true rfl) ⟨Nat.zero_le _, Nat.zero_le _⟩ dX4_mixedWithTrain_22) ?_
        refine lv_lstore (lv' := [(4, .long (mixF d (trainQ S (nI t).toNatClampNeg j))), (6, .int (nI j)), (0, .ref (ad Z 0)), (1, .long d0), (3, .int (nI t))]) E.1 E.2.1 dX4_mixedWithTrain_25 hl (by decide) rfl (fun ls hl => ?_)
        refine lv_iinc (v := (nI (j + 1))) (lv' := [(6, .int (nI (j + 1))), (4, .long (mixF d (trainQ S (nI t).toNatClampNeg j))), (0, .ref (ad Z 0)), (1, .long d0), (3, .int (nI t))]) E.1 E.2.1 dX4_mixedWithTrain_27 hl (k := 1) rfl (nI_1 _) (by decide) rfl (fun ls hl => ?_)
        refine lv_goto (tgt := 6) E.1 E.2.1 dX4_mixedWithTrain_30 (by decide) ?_
        exact ih_6 _ (j + 1) (by omega) (by rw [ha, hct]; rfl) (by omega)  ls (lv_sub hl [0, 1, 2, 3, 4] rfl)
  exact loop_6 14 _ 0 (by omega) rfl (by omega)  _ (lv_sub hl [0, 1, 2, 3, 4] rfl)

abbrev rm_X4_digest : Room := { frames := 4, cells := 0, slots := 0, locals := 92 }
theorem k_X4_digest : Card yX4_digest cX4_digest 5 (some .long) 0 := ⟨gw_222, gw_2, by decide +kernel, by decide +kernel⟩
set_option maxHeartbeats 4000000 in
set_option maxRecDepth 20000 in
theorem lp_X4_digest_124 (l : Launch) {Z : Gm} {V : Nat → St} {S : St} (hV : V 0 = S) (hL : Lim S) {p : Program} {e : Env} {s : State} {m : MethodId} {args : Array Value} {below : List Frame} {meth : Method} {c : Code} (E : EE Z p s m args c cX4_digest RX4) (hr : meth.sig.returnType = (some .long)) (hlk : meth.locks = false) (hml : c.maxLocals = 5) (hP : va_P (gD Z) vwCl (bw Z V) s.heap) : ∀ (n_124 : Nat) (d : Int64) (t : Nat), nT S - t < n_124 → (d = digT S t (dig2 (blockQ S) 4 (nB S) (dig2 (fun q => stationQ S (nI q)) 3 6 (dig1 S)))) → (t ≤ nT S) → ∀ (ls : Array Slot), lv_has ls 5 [(3, .int (nI t)), (1, .long d), (0, .ref (ad Z 0))] → W p l e rm_X4_digest s m args below meth c s.heap [] 0 0 (MQ below (QP (some (.long (digF S)))) args s 0 0 (fun _ => False)) (F0 m 124 ls []) := by
  have hT := hL.2.2
  have hR := hL.2.1
  have hB := hL.1
  intro n_124
  induction n_124 with
  | zero => intro d t hm_124; exact absurd hm_124 (by omega)
  | succ n_124 ih_124 =>
    intro d t hm_124 he htT  ls hl
    refine lv_iload_n E.1 E.2.1 dX4_digest_124 rfl (lv_at hl 0 rfl) ?_
    refine lv_aload_n E.1 E.2.1 dX4_digest_125 rfl (lv_at hl 2 rfl) ?_
    refine g_bay E hP 0 (by decide) gw_13 dX4_digest_126 ?_
    refine g_ln (v := .int (S 6 0 0)) E hP hV (show 0 < 2 by decide) 6 (by decide) gw_170 rfl dX4_digest_129 ?_
    refine lv_icmp_ge (tgt := 148) E.1 E.2.1 dX4_digest_132 (by decide) (fun c_132 => ?_) (fun c_132 => ?_)
    · have hd : nT S ≤ t := lq1 (by omega) c_132
      refine lv_lload_n E.1 E.2.1 dX4_digest_148 rfl (lv_at hl 1 rfl) ?_
      exact e_lP E hr hlk (by rw [he, show t = nT S from by omega]; rfl) dX4_digest_149
    · have hd : t < nT S := lq2 (by omega) c_132
      refine lv_aload_n E.1 E.2.1 dX4_digest_135 rfl (lv_at hl 2 rfl) ?_
      refine lv_lload_n E.1 E.2.1 dX4_digest_136 rfl (lv_at hl 1 rfl) ?_
      refine lv_iload_n E.1 E.2.1 dX4_digest_137 rfl (lv_at hl 0 rfl) ?_
      refine go_Pl (run_V (rest := []) E hml hl.1 (c_X4_mixedWithTrain l  hV d t (by omega) hL) k_X4_mixedWithTrain ⟨rfl, rfl, Nat.le_of_ble_eq_true rfl, Nat.le_of_ble_eq_true rfl⟩ gw_279 gw_280 gw_281 hP (rv_bay E hP) rfl rfl (Nat.le_of_ble_eq_true rfl) ⟨Nat.zero_le _, Nat.zero_le _⟩ dX4_digest_138) ?_
      refine lv_lstore_n (lv' := [(1, .long (trainD S t d)), (3, .int (nI t)), (0, .ref (ad Z 0))]) E.1 E.2.1 dX4_digest_141 rfl hl (by decide) rfl (fun ls hl => ?_)
      refine lv_iinc (v := (nI (t + 1))) (lv' := [(3, .int (nI (t + 1))), (1, .long (trainD S t d)), (0, .ref (ad Z 0))]) E.1 E.2.1 dX4_digest_142 hl (k := 1) rfl (nI_1 _) (by decide) rfl (fun ls hl => ?_)
      refine lv_goto (tgt := 124) E.1 E.2.1 dX4_digest_145 (by decide) ?_
      exact ih_124 _ (t + 1) (by omega) (by rw [he]; exact digT_s _ _ _) (by omega)  ls (lv_sub hl [0, 1, 2] rfl)
set_option maxHeartbeats 4000000 in
set_option maxRecDepth 20000 in
theorem lp_X4_digest_78 (l : Launch) {Z : Gm} {V : Nat → St} {S : St} (hV : V 0 = S) (hL : Lim S) {p : Program} {e : Env} {s : State} {m : MethodId} {args : Array Value} {below : List Frame} {meth : Method} {c : Code} (E : EE Z p s m args c cX4_digest RX4) (hr : meth.sig.returnType = (some .long)) (hlk : meth.locks = false) (hml : c.maxLocals = 5) (hP : va_P (gD Z) vwCl (bw Z V) s.heap) : ∀ (n_78 : Nat) (d : Int64) (q : Nat), nB S - q < n_78 → (d = dig2 (blockQ S) 4 q (dig2 (fun q => stationQ S (nI q)) 3 6 (dig1 S))) → (q ≤ nB S) → ∀ (ls : Array Slot), lv_has ls 5 [(3, .int (nI q)), (1, .long d), (0, .ref (ad Z 0))] → W p l e rm_X4_digest s m args below meth c s.heap [] 0 0 (MQ below (QP (some (.long (digF S)))) args s 0 0 (fun _ => False)) (F0 m 78 ls []) := by
  have hT := hL.2.2
  have hR := hL.2.1
  have hB := hL.1
  intro n_78
  induction n_78 with
  | zero => intro d q hm_78; exact absurd hm_78 (by omega)
  | succ n_78 ih_78 =>
    intro d q hm_78 hc hqB  ls hl
    refine lv_iload_n E.1 E.2.1 dX4_digest_78 rfl (lv_at hl 0 rfl) ?_
    refine lv_aload_n E.1 E.2.1 dX4_digest_79 rfl (lv_at hl 2 rfl) ?_
    refine g_bay E hP 0 (by decide) gw_13 dX4_digest_80 ?_
    refine g_ln (v := .int (S 2 0 0)) E hP hV (show 0 < 2 by decide) 2 (by decide) gw_66 rfl dX4_digest_83 ?_
    refine lv_icmp_ge (tgt := 122) E.1 E.2.1 dX4_digest_86 (by decide) (fun c_86 => ?_) (fun c_86 => ?_)
    · have hq : nB S ≤ q := lq1 (by omega) c_86
      refine lv_iconst (v := 0) E.1 E.2.1 dX4_digest_122 (by decide) ?_
      refine lv_istore_n (lv' := [(3, .int 0), (1, .long d), (0, .ref (ad Z 0))]) E.1 E.2.1 dX4_digest_123 rfl hl (by decide) rfl (fun ls hl => ?_)
      exact lp_X4_digest_124 l hV hL E hr hlk hml hP (nT S + 1) _ 0 (by omega) (by rw [hc, show q = nB S from by omega]; exact digT_0 _ _) (by omega) _ (lv_sub hl [0, 1, 2] rfl)
    · have hq : q < nB S := lq2 (by omega) c_86
      refine lv_iconst (v := 0) E.1 E.2.1 dX4_digest_89 (by decide) ?_
      refine lv_istore (lv' := [(4, .int 0), (3, .int (nI q)), (1, .long d), (0, .ref (ad Z 0))]) E.1 E.2.1 dX4_digest_90 hl (by decide) rfl (fun ls hl => ?_)
      have loop_92 : ∀ (n_92 : Nat) (d : Int64) (j : Nat), 4 - j < n_92 → (d = digL (blockQ S q) j (dig2 (blockQ S) 4 q (dig2 (fun q => stationQ S (nI q)) 3 6 (dig1 S)))) → (j ≤ 4) → ∀ (ls : Array Slot), lv_has ls 5 [(4, .int (nI j)), (3, .int (nI q)), (1, .long d), (0, .ref (ad Z 0))] → W p l e rm_X4_digest s m args below meth c s.heap [] 0 0 (MQ below (QP (some (.long (digF S)))) args s 0 0 (fun _ => False)) (F0 m 92 ls []) := by
        intro n_92
        induction n_92 with
        | zero => intro d j hm_92; exact absurd hm_92 (by omega)
        | succ n_92 ih_92 =>
          intro d j hm_92 hc2 hj4  ls hl
          refine lv_iload E.1 E.2.1 dX4_digest_92 (lv_at hl 0 rfl) ?_
          refine lv_iconst (v := 3) E.1 E.2.1 dX4_digest_94 (by decide) ?_
          refine lv_icmp_gt (tgt := 116) E.1 E.2.1 dX4_digest_95 (by decide) (fun c_95 => ?_) (fun c_95 => ?_)
          · have hd : 3 < j := (nI_ltI (a := 3) (by omega) (by omega)).mp c_95
            refine lv_iinc (v := (nI (q + 1))) (lv' := [(3, .int (nI (q + 1))), (4, .int (nI j)), (1, .long d), (0, .ref (ad Z 0))]) E.1 E.2.1 dX4_digest_116 hl (k := 1) rfl (nI_1 _) (by decide) rfl (fun ls hl => ?_)
            refine lv_goto (tgt := 78) E.1 E.2.1 dX4_digest_119 (by decide) ?_
            exact ih_78 _ (q + 1) (by omega) (by rw [hc2, show j = 4 from by omega]; exact dig2_s (blockQ S) 4 q _) (by omega)  ls (lv_sub hl [0, 2, 3] rfl)
          · have hd : ¬ 3 < j := fun h => c_95 ((nI_ltI (a := 3) (by omega) (by omega)).mpr h)
            refine lv_lload_n E.1 E.2.1 dX4_digest_98 rfl (lv_at hl 2 rfl) ?_
            refine lv_aload_n E.1 E.2.1 dX4_digest_99 rfl (lv_at hl 3 rfl) ?_
            refine lv_iload_n E.1 E.2.1 dX4_digest_100 rfl (lv_at hl 1 rfl) ?_
            refine lv_iload E.1 E.2.1 dX4_digest_101 (lv_at hl 0 rfl) ?_
            refine go_Pi (run_V (rest := [.long d]) E hml hl.1 (c_X4_ofBlock l  hV (nI q) (nI_lt0 (by omega)) (nI_ltc hq) j (by omega) hL) k_X4_ofBlock ⟨rfl, rfl, Nat.le_of_ble_eq_true rfl, Nat.le_of_ble_eq_true rfl⟩ gw_267 gw_268 gw_269 hP (rv_bay E hP) rfl rfl (Nat.le_of_ble_eq_true rfl) ⟨Nat.zero_le _, Nat.zero_le _⟩ dX4_digest_103) ?_
            refine go_Pl (run_S (rest := []) E hml hl.1 (c_X4_mixed l (V := V) d (blockQ S (nI q).toNatClampNeg j)) k_X4_mixed ⟨rfl, rfl, Nat.le_of_ble_eq_true rfl, Nat.le_of_ble_eq_true rfl⟩ gw_228 gw_229 hP  rfl rfl (Nat.le_of_ble_eq_true rfl) ⟨Nat.zero_le _, Nat.zero_le _⟩ dX4_digest_106) ?_
            refine lv_lstore_n (lv' := [(1, .long (mixF d (blockQ S (nI q).toNatClampNeg j))), (4, .int (nI j)), (3, .int (nI q)), (0, .ref (ad Z 0))]) E.1 E.2.1 dX4_digest_109 rfl hl (by decide) rfl (fun ls hl => ?_)
            refine lv_iinc (v := (nI (j + 1))) (lv' := [(4, .int (nI (j + 1))), (1, .long (mixF d (blockQ S (nI q).toNatClampNeg j))), (3, .int (nI q)), (0, .ref (ad Z 0))]) E.1 E.2.1 dX4_digest_110 hl (k := 1) rfl (nI_1 _) (by decide) rfl (fun ls hl => ?_)
            refine lv_goto (tgt := 92) E.1 E.2.1 dX4_digest_113 (by decide) ?_
            exact ih_92 _ (j + 1) (by omega) (by rw [hc2, nI_clamp (by omega)]; exact digL_s _ _ _) (by omega)  ls (lv_sub hl [0, 2, 1, 3] rfl)
      exact loop_92 5 _ 0 (by omega) (by rw [hc]; exact digL_0 _ _) (by omega)  _ (lv_sub hl [0, 1, 2, 3] rfl)
set_option maxHeartbeats 4000000 in
set_option maxRecDepth 20000 in
theorem lp_X4_digest_37 (l : Launch) {Z : Gm} {V : Nat → St} {S : St} (hV : V 0 = S) (hL : Lim S) {p : Program} {e : Env} {s : State} {m : MethodId} {args : Array Value} {below : List Frame} {meth : Method} {c : Code} (E : EE Z p s m args c cX4_digest RX4) (hr : meth.sig.returnType = (some .long)) (hlk : meth.locks = false) (hml : c.maxLocals = 5) (hP : va_P (gD Z) vwCl (bw Z V) s.heap) : ∀ (n_37 : Nat) (d : Int64) (q : Nat), 6 - q < n_37 → (d = dig2 (fun q => stationQ S (nI q)) 3 q (dig1 S)) → (q ≤ 6) → ∀ (ls : Array Slot), lv_has ls 5 [(3, .int (nI q)), (1, .long d), (0, .ref (ad Z 0))] → W p l e rm_X4_digest s m args below meth c s.heap [] 0 0 (MQ below (QP (some (.long (digF S)))) args s 0 0 (fun _ => False)) (F0 m 37 ls []) := by
  have hT := hL.2.2
  have hR := hL.2.1
  have hB := hL.1
  intro n_37
  induction n_37 with
  | zero => intro d q hm_37; exact absurd hm_37 (by omega)
  | succ n_37 ih_37 =>
    intro d q hm_37 hb hq6  ls hl
    refine lv_iload_n E.1 E.2.1 dX4_digest_37 rfl (lv_at hl 0 rfl) ?_
    refine lv_bipush (v := 6) E.1 E.2.1 dX4_digest_38 (by decide) ?_
    refine lv_icmp_ge (tgt := 76) E.1 E.2.1 dX4_digest_40 (by decide) (fun c_40 => ?_) (fun c_40 => ?_)
    · have hd : 6 ≤ q := (nI_leI (a := 6) (by omega) (by omega)).mp c_40
      refine lv_iconst (v := 0) E.1 E.2.1 dX4_digest_76 (by decide) ?_
      refine lv_istore_n (lv' := [(3, .int 0), (1, .long d), (0, .ref (ad Z 0))]) E.1 E.2.1 dX4_digest_77 rfl hl (by decide) rfl (fun ls hl => ?_)
      exact lp_X4_digest_78 l hV hL E hr hlk hml hP (nB S + 1) _ 0 (by omega) (by rw [hb, show q = 6 from by omega]; exact dig2_0 _ _ _) (by omega) _ (lv_sub hl [0, 1, 2] rfl)
    · have hd : ¬ 6 ≤ q := fun h => c_40 ((nI_leI (a := 6) (by omega) (by omega)).mpr h)
      refine lv_iconst (v := 0) E.1 E.2.1 dX4_digest_43 (by decide) ?_
      refine lv_istore (lv' := [(4, .int 0), (3, .int (nI q)), (1, .long d), (0, .ref (ad Z 0))]) E.1 E.2.1 dX4_digest_44 hl (by decide) rfl (fun ls hl => ?_)
      have loop_46 : ∀ (n_46 : Nat) (d : Int64) (j : Nat), 3 - j < n_46 → (d = digL (stationQ S (nI q)) j (dig2 (fun q => stationQ S (nI q)) 3 q (dig1 S))) → (j ≤ 3) → ∀ (ls : Array Slot), lv_has ls 5 [(4, .int (nI j)), (3, .int (nI q)), (1, .long d), (0, .ref (ad Z 0))] → W p l e rm_X4_digest s m args below meth c s.heap [] 0 0 (MQ below (QP (some (.long (digF S)))) args s 0 0 (fun _ => False)) (F0 m 46 ls []) := by
        intro n_46
        induction n_46 with
        | zero => intro d j hm_46; exact absurd hm_46 (by omega)
        | succ n_46 ih_46 =>
          intro d j hm_46 hb2 hj3  ls hl
          refine lv_iload E.1 E.2.1 dX4_digest_46 (lv_at hl 0 rfl) ?_
          refine lv_iconst (v := 2) E.1 E.2.1 dX4_digest_48 (by decide) ?_
          refine lv_icmp_gt (tgt := 70) E.1 E.2.1 dX4_digest_49 (by decide) (fun c_49 => ?_) (fun c_49 => ?_)
          · have hd : 2 < j := (nI_ltI (a := 2) (by omega) (by omega)).mp c_49
            refine lv_iinc (v := (nI (q + 1))) (lv' := [(3, .int (nI (q + 1))), (4, .int (nI j)), (1, .long d), (0, .ref (ad Z 0))]) E.1 E.2.1 dX4_digest_70 hl (k := 1) rfl (nI_1 _) (by decide) rfl (fun ls hl => ?_)
            refine lv_goto (tgt := 37) E.1 E.2.1 dX4_digest_73 (by decide) ?_
            exact ih_37 _ (q + 1) (by omega) (by rw [hb2, show j = 3 from by omega]; exact dig2_s (fun q => stationQ S (nI q)) 3 q (dig1 S)) (by omega)  ls (lv_sub hl [0, 2, 3] rfl)
          · have hd : ¬ 2 < j := fun h => c_49 ((nI_ltI (a := 2) (by omega) (by omega)).mpr h)
            refine lv_lload_n E.1 E.2.1 dX4_digest_52 rfl (lv_at hl 2 rfl) ?_
            refine lv_aload_n E.1 E.2.1 dX4_digest_53 rfl (lv_at hl 3 rfl) ?_
            refine lv_iload_n E.1 E.2.1 dX4_digest_54 rfl (lv_at hl 1 rfl) ?_
            refine lv_iload E.1 E.2.1 dX4_digest_55 (lv_at hl 0 rfl) ?_
            refine go_Pi (run_V (rest := [.long d]) E hml hl.1 (c_X4_station l  hV (nI q) (nI_lt0 (by omega)) (nI_lt (b := 6) (by omega) (by omega)) j (by omega) hL) k_X4_station ⟨rfl, rfl, Nat.le_of_ble_eq_true rfl, Nat.le_of_ble_eq_true rfl⟩ gw_266 gw_151 gw_152 hP (rv_bay E hP) rfl rfl (Nat.le_of_ble_eq_true rfl) ⟨Nat.zero_le _, Nat.zero_le _⟩ dX4_digest_57) ?_
            refine go_Pl (run_S (rest := []) E hml hl.1 (c_X4_mixed l (V := V) d (stationQ S (nI q) j)) k_X4_mixed ⟨rfl, rfl, Nat.le_of_ble_eq_true rfl, Nat.le_of_ble_eq_true rfl⟩ gw_228 gw_229 hP  rfl rfl (Nat.le_of_ble_eq_true rfl) ⟨Nat.zero_le _, Nat.zero_le _⟩ dX4_digest_60) ?_
            refine lv_lstore_n (lv' := [(1, .long (mixF d (stationQ S (nI q) j))), (4, .int (nI j)), (3, .int (nI q)), (0, .ref (ad Z 0))]) E.1 E.2.1 dX4_digest_63 rfl hl (by decide) rfl (fun ls hl => ?_)
            refine lv_iinc (v := (nI (j + 1))) (lv' := [(4, .int (nI (j + 1))), (1, .long (mixF d (stationQ S (nI q) j))), (3, .int (nI q)), (0, .ref (ad Z 0))]) E.1 E.2.1 dX4_digest_64 hl (k := 1) rfl (nI_1 _) (by decide) rfl (fun ls hl => ?_)
            refine lv_goto (tgt := 46) E.1 E.2.1 dX4_digest_67 (by decide) ?_
            exact ih_46 _ (j + 1) (by omega) (by rw [hb2]; exact digL_s _ _ _) (by omega)  ls (lv_sub hl [0, 2, 1, 3] rfl)
      exact loop_46 4 _ 0 (by omega) (by rw [hb]; exact digL_0 _ _) (by omega)  _ (lv_sub hl [0, 1, 2, 3] rfl)
set_option maxHeartbeats 4000000 in
set_option maxRecDepth 20000 in
theorem lp_X4_digest_13 (l : Launch) {Z : Gm} {V : Nat → St} {S : St} (hV : V 0 = S) (hL : Lim S) {p : Program} {e : Env} {s : State} {m : MethodId} {args : Array Value} {below : List Frame} {meth : Method} {c : Code} (E : EE Z p s m args c cX4_digest RX4) (hr : meth.sig.returnType = (some .long)) (hlk : meth.locks = false) (hml : c.maxLocals = 5) (hP : va_P (gD Z) vwCl (bw Z V) s.heap) : ∀ (n_13 : Nat) (d : Int64) (j : Nat), 7 - j < n_13 → (d = digL (manyF S) j (mixF 58091 (S 9 0 0))) → (j ≤ 7) → ∀ (ls : Array Slot), lv_has ls 5 [(3, .int (nI j)), (1, .long d), (0, .ref (ad Z 0))] → W p l e rm_X4_digest s m args below meth c s.heap [] 0 0 (MQ below (QP (some (.long (digF S)))) args s 0 0 (fun _ => False)) (F0 m 13 ls []) := by
  have hT := hL.2.2
  have hR := hL.2.1
  have hB := hL.1
  intro n_13
  induction n_13 with
  | zero => intro d j hm_13; exact absurd hm_13 (by omega)
  | succ n_13 ih_13 =>
    intro d j hm_13 ha hj  ls hl
    refine lv_iload_n E.1 E.2.1 dX4_digest_13 rfl (lv_at hl 0 rfl) ?_
    refine lv_bipush (v := 6) E.1 E.2.1 dX4_digest_14 (by decide) ?_
    refine lv_icmp_gt (tgt := 35) E.1 E.2.1 dX4_digest_16 (by decide) (fun c_16 => ?_) (fun c_16 => ?_)
    · have hd : 6 < j := (nI_ltI (a := 6) (by omega) (by omega)).mp c_16
      refine lv_iconst (v := 0) E.1 E.2.1 dX4_digest_35 (by decide) ?_
      refine lv_istore_n (lv' := [(3, .int 0), (1, .long d), (0, .ref (ad Z 0))]) E.1 E.2.1 dX4_digest_36 rfl hl (by decide) rfl (fun ls hl => ?_)
      exact lp_X4_digest_37 l hV hL E hr hlk hml hP 7 _ 0 (by omega) (by rw [ha, show j = 7 from by omega]; exact dig2_0 _ _ (dig1 S)) (by omega) _ (lv_sub hl [0, 1, 2] rfl)
    · have hd : ¬ 6 < j := fun h => c_16 ((nI_ltI (a := 6) (by omega) (by omega)).mpr h)
      refine lv_lload_n E.1 E.2.1 dX4_digest_19 rfl (lv_at hl 1 rfl) ?_
      refine lv_aload_n E.1 E.2.1 dX4_digest_20 rfl (lv_at hl 2 rfl) ?_
      refine lv_iload_n E.1 E.2.1 dX4_digest_21 rfl (lv_at hl 0 rfl) ?_
      refine go_Pi (run_V (rest := [.long d]) E hml hl.1 (c_X4_many l  hV j (by omega) hL) k_X4_many ⟨rfl, rfl, Nat.le_of_ble_eq_true rfl, Nat.le_of_ble_eq_true rfl⟩ gw_232 gw_233 gw_234 hP (rv_bay E hP) rfl rfl (Nat.le_of_ble_eq_true rfl) ⟨Nat.zero_le _, Nat.zero_le _⟩ dX4_digest_22) ?_
      refine go_Pl (run_S (rest := []) E hml hl.1 (c_X4_mixed l (V := V) d (manyF S j)) k_X4_mixed ⟨rfl, rfl, Nat.le_of_ble_eq_true rfl, Nat.le_of_ble_eq_true rfl⟩ gw_228 gw_229 hP  rfl rfl (Nat.le_of_ble_eq_true rfl) ⟨Nat.zero_le _, Nat.zero_le _⟩ dX4_digest_25) ?_
      refine lv_lstore_n (lv' := [(1, .long (mixF d (manyF S j))), (3, .int (nI j)), (0, .ref (ad Z 0))]) E.1 E.2.1 dX4_digest_28 rfl hl (by decide) rfl (fun ls hl => ?_)
      refine lv_iinc (v := (nI (j + 1))) (lv' := [(3, .int (nI (j + 1))), (1, .long (mixF d (manyF S j))), (0, .ref (ad Z 0))]) E.1 E.2.1 dX4_digest_29 hl (k := 1) rfl (nI_1 _) (by decide) rfl (fun ls hl => ?_)
      refine lv_goto (tgt := 13) E.1 E.2.1 dX4_digest_32 (by decide) ?_
      exact ih_13 _ (j + 1) (by omega) (by rw [ha]; rfl) (by omega)  ls (lv_sub hl [0, 1, 2] rfl)
set_option maxHeartbeats 4000000 in
set_option maxRecDepth 20000 in
theorem c_X4_digest (l : Launch) {Z : Gm} {V : Nat → St} {S : St} (hV : V 0 = S) (hL : Lim S) : Met l yX4_digest (.code yX4_digest cX4_digest 5 (some .long) :: gG) rm_X4_digest (PW Z V [.ref (ad Z 0)]) (QP (some (.long (digF S)))) 0 0 (fun _ => False) := by
  refine met_of (by decide +kernel) (Nat.le_of_ble_eq_true rfl) ?_
  intro p e s m args below meth c ls E hr hlk hml hP hl
  have E : EE Z p s m args c cX4_digest RX4 := E
  have hl : lv_has ls 5 [(0, .ref (ad Z 0))] := hl
  have hT := hL.2.2
  have hR := hL.2.1
  have hB := hL.1
  refine lv_ldc2 (v := 58091) E.1 E.2.1 E.2.2.1 (E.2.2.2.1 _ gw_223) dX4_digest_0 ?_
  refine lv_aload_n E.1 E.2.1 dX4_digest_3 rfl (lv_at hl 0 rfl) ?_
  refine go_Pi (run_V (rest := [.long 58091]) E hml hl.1 (c_X4_clock l  hV) k_X4_clock ⟨rfl, rfl, Nat.le_of_ble_eq_true rfl, Nat.le_of_ble_eq_true rfl⟩ gw_224 gw_225 gw_226 hP (rv_bay E hP) rfl rfl (Nat.le_of_ble_eq_true rfl) ⟨Nat.zero_le _, Nat.zero_le _⟩ dX4_digest_4) ?_
  refine go_Pl (run_S (rest := []) E hml hl.1 (c_X4_mixed l (V := V) 58091 (S 9 0 0)) k_X4_mixed ⟨rfl, rfl, Nat.le_of_ble_eq_true rfl, Nat.le_of_ble_eq_true rfl⟩ gw_228 gw_229 hP  rfl rfl (Nat.le_of_ble_eq_true rfl) ⟨Nat.zero_le _, Nat.zero_le _⟩ dX4_digest_7) ?_
  refine lv_lstore_n (lv' := [(1, .long (mixF 58091 (S 9 0 0))), (0, .ref (ad Z 0))]) E.1 E.2.1 dX4_digest_10 rfl hl (by decide) rfl (fun ls hl => ?_)
  refine lv_iconst (v := 0) E.1 E.2.1 dX4_digest_11 (by decide) ?_
  refine lv_istore_n (lv' := [(3, .int 0), (1, .long (mixF 58091 (S 9 0 0))), (0, .ref (ad Z 0))]) E.1 E.2.1 dX4_digest_12 rfl hl (by decide) rfl (fun ls hl => ?_)
  exact lp_X4_digest_13 l hV hL E hr hlk hml hP 8 _ 0 (by omega) rfl (by omega) _ (lv_sub hl [0, 1, 2] rfl)
end
section
/-! Constructors: the cells come one behind the other. -/
def initS : St := fun f _ j => if f = 0 then (if j < 6 then 2 else 0) else if f = 8 then 2 else if f = 11 ∨ f = 12 ∨ f = 36 ∨ f = 38 ∨ f = 44 then -1 else 0
def Ext (U : State) : Prop := va_Nw (.methodLinkNest RX1 37 yX0_init RX4) U ∧ va_Nw (.methodLinkNest RX1 38 yX2_init RX4) U ∧ va_Nw (.methodLinkNest RX1 39 yX3_init RX4) U ∧ va_AO RX0 U ∧ va_AO RX2 U ∧ va_AO RX3 U
theorem Ext.warm {s U : State} (hW : s.WarmedH U.vm) (h : Ext s) : Ext U := ⟨va_Nw.warmM hW h.1, va_Nw.warmM hW h.2.1, va_Nw.warmM hW h.2.2.1, h.2.2.2.1.moved hW.alike, h.2.2.2.2.1.moved hW.alike, h.2.2.2.2.2.moved hW.alike⟩
theorem Ext.same {s U : State} (hv : s.vm = U.vm) (h : Ext s) : Ext U := ⟨va_Nw.same rfl hv h.1, va_Nw.same rfl hv h.2.1, va_Nw.same rfl hv h.2.2.1, h.2.2.2.1.moved (hv ▸ Vm.Alike.refl _), h.2.2.2.2.1.moved (hv ▸ Vm.Alike.refl _), h.2.2.2.2.2.moved (hv ▸ Vm.Alike.refl _)⟩
def PI (Z : Gm) (ws : va_W) (sz : Nat) (av : List Value) : Array Value → State → Prop := fun a U => a = av.toArray ∧ U.heap.size = sz ∧ va_P (gD Z) vwCl ws U.heap ∧ va_K (gD Z) vwCl (gT Z) U ∧ Ext U
def QI (Z : Gm) (ws : va_W) (sz q : Nat) : Array Value → State → Outcome → State → Prop := fun _ st o t => o = .returned none ∧ t.heap.size = sz ∧ va_P (gD Z) vwCl ws t.heap ∧ ∀ x : Nat, x < q → t.heap[x]? = st.heap[x]?
theorem PI_blind (Z : Gm) (ws : va_W) (sz : Nat) (av : List Value) : FrameBlind (PI Z ws sz av) := fun a U g mk h => ⟨h.1, h.2.1, h.2.2.1, va_K.moved (u := U) (U := U.calling g mk a) (Vm.Alike.refl U.vm) h.2.2.2.1, Ext.same (s := U) (U := U.calling g mk a) rfl h.2.2.2.2⟩
theorem PI_at {Z : Gm} {ws : va_W} {sz : Nat} {s : State} {H : Heap} (hK : va_K (gD Z) vwCl (gT Z) s) (hX : Ext s) (hz : H.size = sz) (hP : va_P (gD Z) vwCl ws H) (av : List Value) : ∀ U : State, U.heap = H → s.WarmedH U.vm → PI Z ws sz av av.toArray U := fun _ hU hW => ⟨rfl, by rw [hU]; exact hz, by rw [hU]; exact hP, va_K.moved hW.alike hK, hX.warm hW⟩
section MAKE
variable {p : Program} {l : Launch} {e : Env} {R : Room} {s : State} {m : MethodId} {args : Array Value} {below : List Frame} {meth : Method} {c : Code} {H : Heap} {locs : List Loc} {cells slots : Nat} {Q : State → Prop} {cc : ByteArray} {pc : Nat} {ls : Array Slot} {rest st : List Value} {Z : Gm} {own C : String} {index : Nat} {H0 : Heap} {y : MethodName} {bytes : ByteArray} {maxL n nL : Nat} {rm : Room} {A : Nat → Prop} {ws : va_W} {mc ms q : Nat}
theorem n_obj (E : EE Z p s m args c cc own) (hP : va_P (gD Z) vwCl ws H) (hS : va_S A H0 H locs) {ci : Nat} {T : u_T} {N : Nat} (hc : vwCl[ci]? = some (C, T, N)) (hin : ∀ w ∈ u_ws C T N, w ∈ gG) (ty : Nat → FieldType) (hty : ∀ k, k < N → parseFieldDescriptor (T k).2.2.1 = some (ty k)) (hcl : Cond.classLink own index C ∈ gG) (hi : Cond.instantiable C N ∈ gG) (hini : Cond.initialized C ∈ gG) {fs : List Value} (hfs : ∀ j, j < N → defaultValue (ty j) = vp_V fs j) (hcells : cells + 1 ≤ R.cells) (hslots : slots + N ≤ R.slots) (hdg : decode cc pc = .ok (.new index, 3)) {h : Nat} (hh : H.size = h)
    (kk : ∀ H1 : Heap, H1.size = h + 1 → va_P (gD Z) vwCl (ws ++ [(h, .inr (ci, fs))]) H1 → va_S A H0 H1 locs → W p l e R s m args below meth c H1 locs (cells + 1) (slots + N) Q (F0 m (pc + 3) ls (.ref h :: rest))) : W p l e R s m args below meth c H locs cells slots Q (F0 m pc ls rest) := by
  have hKn := E.2.2.2.2.1 ci _ hc
  refine W.newcK E.1 E.2.1 E.2.2.1 (E.2.2.2.1 _ hcl) (E.2.2.2.1 _ hi) (E.2.2.2.1 _ hini) rfl hdg hcells hslots hKn.2.1 hh fun H1 kC hkC e1 z1 o1 => ?_
  refine kk H1 z1 ((hP.kept fun k x hx => o1 x.1 (hh ▸ (hP k x hx).lt)).app (fun k x hx => ?_)) ⟨Nat.le_trans hS.1 (by omega), fun x h1 h2 => (o1 x (hh ▸ Nat.lt_of_lt_of_le h1 hS.1)).trans (hS.2.1 x h1 h2), hS.2.2⟩
  have hz : k < 1 := (List.getElem?_eq_some_iff.mp hx).1
  rw [show k = 0 by omega] at hx
  cases hx
  exact ⟨_, hc, (u_born ty E.2.2.2.1 hin hKn hkC e1 hty).to hfs⟩
theorem n_int (E : EE Z p s m args c cc own) (hP : va_P (gD Z) vwCl ws H) (hS : va_S A H0 H locs) (harr : Cond.arrayClass .int ∈ gG) {N : Int32} (hn : ¬ N < 0) (hN : N.toNatClampNeg = n) (hbytes : n * 4 ≤ 536870912) (hcells : cells + 1 ≤ R.cells) (hslots : slots + n ≤ R.slots) (hdg : decode cc pc = .ok (.newarray .int, 2)) {h : Nat} (hh : H.size = h)
    (kk : ∀ H1 : Heap, H1.size = h + 1 → va_P (gD Z) vwCl (ws ++ [(h, .inl (Z.2.2.1, n, .inl (fun _ => 0)))]) H1 → va_S A H0 H1 locs → W p l e R s m args below meth c H1 locs (cells + 1) (slots + n) Q (F0 m (pc + 2) ls (.ref h :: rest))) : W p l e R s m args below meth c H locs cells slots Q (F0 m pc ls (.int N :: rest)) := by
  subst hN
  subst hh
  refine W.newa (atype := .int) E.1 E.2.1 (E.2.2.2.1 _ harr) rfl hdg rfl hn hbytes hcells hslots fun cA kA comp h1 h2 h3 => ?_
  have hcA : cA = Z.2.2.1 := Option.some.inj (h1.symm.trans (E.2.2.2.2.2 0 (Z.2.2.1, .int) rfl).2)
  subst hcA
  generalize hH1 : H.push ({ cls := Z.2.2.1, slots := Array.replicate N.toNatClampNeg (defaultValue (newarray.typeOf .int)), vm := .none } : Cell) = H1
  have z1 : H1.size = H.size + 1 := by rw [← hH1, Array.size_push]
  have e1 : H1[H.size]? = some (arrV Z.2.2.1 N.toNatClampNeg (fun _ => .int 0)) := by
    rw [← hH1, Array.getElem?_push_size, ← arrV_new]
    rfl
  have o1 : ∀ q : Nat, q < H.size → H1[q]? = H[q]? := fun q hq => by rw [← hH1, Array.getElem?_push, if_neg (Nat.ne_of_lt hq)]
  refine kk H1 z1 ((hP.kept fun k x hx => o1 x.1 (hP k x hx).lt).app (fun k x hx => ?_)) ⟨Nat.le_trans hS.1 (by omega), fun x h1 h2 => (o1 x (Nat.lt_of_lt_of_le h1 hS.1)).trans (hS.2.1 x h1 h2), hS.2.2⟩
  have hz : k < 1 := (List.getElem?_eq_some_iff.mp hx).1
  rw [show k = 0 by omega] at hx
  cases hx
  exact e1
theorem n_ref (E : EE Z p s m args c cc own) (hX : va_AO C s) (hP : va_P (gD Z) vwCl ws H) (hS : va_S A H0 H locs) (hcl : Cond.classLink own index C ∈ gG) {t0 : Nat} {cA : ClassId} (ht : (gT Z)[t0]? = some (cA, .object C)) {N : Int32} (hn : ¬ N < 0) (hN : N.toNatClampNeg = n) (hbytes : n * 4 ≤ 536870912) (hcells : cells + 1 ≤ R.cells) (hslots : slots + n ≤ R.slots) (hdg : decode cc pc = .ok (.anewarray index, 3)) {h : Nat} (hh : H.size = h)
    (kk : ∀ H1 : Heap, H1.size = h + 1 → va_P (gD Z) vwCl (ws ++ [(h, .inl (cA, n, .inr (.inr (.inr (.inr (fun _ => none))))))]) H1 → va_S A H0 H1 locs → W p l e R s m args below meth c H1 locs (cells + 1) (slots + n) Q (F0 m (pc + 3) ls (.ref h :: rest))) : W p l e R s m args below meth c H locs cells slots Q (F0 m pc ls (.int N :: rest)) := by
  subst hN
  subst hh
  refine W.anew E.1 E.2.1 E.2.2.1 (E.2.2.2.1 _ hcl) (va_AO.use hX) rfl hdg rfl hn hbytes hcells hslots fun cA' kA comp f1 f2 f3 f4 => ?_
  obtain ⟨-, kA2, comp2, -, -, -, g4⟩ := E.2.2.2.2.2 t0 _ ht
  have hcA : cA' = cA := Option.some.inj (f1.symm.trans g4)
  subst hcA
  generalize hH1 : H.push ({ cls := cA', slots := Array.replicate N.toNatClampNeg .null, vm := .none } : Cell) = H1
  have z1 : H1.size = H.size + 1 := by rw [← hH1, Array.size_push]
  have e1 : H1[H.size]? = some (arrV cA' N.toNatClampNeg (fun _ => .null)) := by rw [← hH1, Array.getElem?_push_size, ← arrV_new]
  have o1 : ∀ q : Nat, q < H.size → H1[q]? = H[q]? := fun q hq => by rw [← hH1, Array.getElem?_push, if_neg (Nat.ne_of_lt hq)]
  refine kk H1 z1 ((hP.kept fun k x hx => o1 x.1 (hP k x hx).lt).app (fun k x hx => ?_)) ⟨Nat.le_trans hS.1 (by omega), fun x h1 h2 => (o1 x (Nat.lt_of_lt_of_le h1 hS.1)).trans (hS.2.1 x h1 h2), hS.2.2⟩
  have hz : k < 1 := (List.getElem?_eq_some_iff.mp hx).1
  rw [show k = 0 by omega] at hx
  cases hx
  show H1[H.size]? = some (vp_cell _ _)
  rw [vp_cell_q]
  exact e1
/-- a constructor's body, from its start -/
theorem met_ofI {av : List Value} {sz : Nat} {Qc : Array Value → State → Outcome → State → Prop} {free : Addr → Prop} (hy : plainName y.cls = true) (hsz : (lg_sl av).length ≤ maxL) (hn : y.name = "<init>")
    (body : ∀ (p : Program) (e : Env) (s : State) (m : MethodId) (args : Array Value) (below : List Frame) (meth : Method) (c : Code) (ls : Array Slot), EE Z p s m args c cc y.cls → Ext s → meth.name = "<init>" → meth.sig.returnType = none → meth.locks = false → c.maxLocals = maxL → s.heap.size = sz → va_P (gD Z) vwCl ws s.heap → lv_has ls maxL (lv_args 0 av) → W p l e rm s m args below meth c s.heap [] 0 0 (MQ below Qc args s mc ms free) (F0 m 0 ls [])) :
    Met l y (.code y cc maxL none :: gG) rm (PI Z ws sz av) Qc mc ms free := by
  refine Met.ofW (cc := cc) (maxL := maxL) (ret := none) hy rfl ?_
  intro p e s m args below meth c s₁ B hml hv
  obtain ⟨rfl, hz, hP, hK, hX⟩ := hv
  have hts := atoms_spec (ws := .code y cc maxL none :: gG) B.pre
  have hl := lv_entry av (n := maxL) hsz
  rw [lg_entry_eq]
  exact body p e s m _ below meth c _ ⟨B.exec, B.bytes, findClass_of_methodNamed B.named, fun w hw => hts w (List.mem_cons_of_mem _ hw), hK⟩ hX ((name_of_methodNamed B.named B.method).1.trans hn) B.returns B.notSynchronized hml hz hP hl
/-- the call of a constructor -/
theorem go_I {a : Array Value} {sz' : Nat} {ws' : va_W} (hr : va_Run p l e R s m args below meth c H locs cells slots mc ms (F0 m pc ls st) rest (QI Z ws' sz' q a) (fun x => q ≤ x)) (hS : va_S A H0 H locs) (hq : ∀ x, q ≤ x → A x) (hz : H.size ≤ sz')
    (kk : ∀ (H1 : Heap) (locs1 : List Loc), H1.size = sz' → va_P (gD Z) vwCl ws' H1 → (∀ x : Nat, x < q → H1[x]? = H[x]?) → va_S A H0 H1 locs1 → W p l e R s m args below meth c H1 locs1 (cells + mc) (slots + ms) Q (F0 m (pc + 3) ls rest)) : W p l e R s m args below meth c H locs cells slots Q (F0 m pc ls st) := by
  intro T hT X
  obtain ⟨v1, st₀, t, T', L, h0, X', hL, e1, -, ⟨hv, hz1, hp, hk⟩, sg⟩ := hr T hT X
  cases hv
  rw [h0] at hk
  obtain ⟨t2, a1, b1⟩ := kk T'.heap (locs ++ L) (by rw [e1]; exact hz1) (by rw [e1]; exact hp) (fun x hx => by rw [e1]; exact hk x hx) ⟨Nat.le_trans hS.1 (by rw [e1, hz1]; exact hz), fun x h1 h2 => by rw [e1, hk x (Nat.not_le.mp fun h => h2 (hq x h))]; exact hS.2.1 x h1 h2, fun x hx => by
      rcases List.mem_append.mp hx with h | h
      · exact hS.2.2 x h
      · exact hq _ (hL x h)⟩ T' rfl X'
  exact ⟨t2, sg t2 a1, b1⟩
def CardI (y : MethodName) (bytes : ByteArray) (maxL : Nat) : Prop := Cond.code y bytes maxL none ∈ gG ∧ Cond.initialized y.cls ∈ gG ∧ (y.cls ≠ "java/lang/invoke/MethodHandle" ∧ y.cls ≠ "java/lang/invoke/VarHandle") ∧ (parseMethodDescriptor y.desc).map (fun d => d.parameters.length) = some 0 ∧ y.name = "<init>" ∧ Cond.instanceMethod y ∈ gG
theorem run_IN {b sz : Nat} {Qc : Array Value → State → Outcome → State → Prop} {free : Addr → Prop} {host : String} (E : EE Z p s m args c cc own) (hX : Ext s) (hml : c.maxLocals = nL) (hls : ls.size = nL) (hM : Met l y (.code y bytes maxL none :: gG) rm (PI Z ws sz [.ref b]) Qc mc ms free) (hc : CardI y bytes maxL) (hR : rm.cells = mc ∧ rm.slots = ms ∧ rm.frames + 1 ≤ R.frames ∧ 8 + (maxL + 11) + rm.locals ≤ R.locals) (hlk : va_Nw (.methodLinkNest own index y host) s) (hz : H.size = sz) (hP : va_P (gD Z) vwCl ws H)
    (hst : st = .ref b :: rest) (hrm : (rest.map fun v => v.category).sum ≤ 8) (hf : cells + mc ≤ R.cells ∧ slots + ms ≤ R.slots) (hdg : decode cc pc = .ok (.invokespecial index, 3)) :
    va_Run p l e R s m args below meth c H locs cells slots mc ms (F0 m pc ls st) rest (Qc #[Value.ref b]) free :=
  va_runIN (As := []) (n := 0) ⟨E.1, E.2.1, hml, E.2.2.1, E.2.2.2.1⟩ hM ⟨⟨⟨hR.1, hR.2.1, hR.2.2.1, hR.2.2.2, gG_pay E.2.2.2.1 (gG_cons hc.1), List.mem_cons_self⟩, E.2.2.2.1 _ hc.1, E.2.2.2.1 _ hc.2.1, hc.2.2.1, fun sig h => by
    have h2 := hc.2.2.2.1
    rw [h] at h2
    exact (Option.some.inj h2).symm, va_Nw.use rfl hlk⟩, hc.2.2.2.2.1, E.2.2.2.1 _ hc.2.2.2.2.2⟩ ⟨PI_blind Z ws sz _, PI_at E.2.2.2.2 hX hz hP _⟩ rfl rfl hls hst (lv_room (m := m) (pc := pc) (ls := ls) (rest := st) hrm) hdg hf
theorem run_I {b sz : Nat} {Qc : Array Value → State → Outcome → State → Prop} {free : Addr → Prop} (E : EE Z p s m args c cc own) (hX : Ext s) (hml : c.maxLocals = nL) (hls : ls.size = nL) (hM : Met l y (.code y bytes maxL none :: gG) rm (PI Z ws sz [.ref b]) Qc mc ms free) (hc : CardI y bytes maxL) (hR : rm.cells = mc ∧ rm.slots = ms ∧ rm.frames + 1 ≤ R.frames ∧ 8 + (maxL + 11) + rm.locals ≤ R.locals) (hlk : Cond.methodLink own index y ∈ gG) (hz : H.size = sz) (hP : va_P (gD Z) vwCl ws H)
    (hst : st = .ref b :: rest) (hrm : (rest.map fun v => v.category).sum ≤ 8) (hf : cells + mc ≤ R.cells ∧ slots + ms ≤ R.slots) (hdg : decode cc pc = .ok (.invokespecial index, 3)) :
    va_Run p l e R s m args below meth c H locs cells slots mc ms (F0 m pc ls st) rest (Qc #[Value.ref b]) free :=
  va_runI (As := []) (n := 0) ⟨E.1, E.2.1, hml, E.2.2.1, E.2.2.2.1⟩ hM ⟨⟨hR.1, hR.2.1, hR.2.2.1, hR.2.2.2, gG_pay E.2.2.2.1 (gG_cons hc.1), List.mem_cons_self, E.2.2.2.1 _ hc.1, E.2.2.2.1 _ hc.2.1, hc.2.2.1, fun sig h => by
    have h2 := hc.2.2.2.1
    rw [h] at h2
    exact (Option.some.inj h2).symm, E.2.2.2.1 _ hlk⟩, hc.2.2.2.2.1, E.2.2.2.1 _ hc.2.2.2.2.2⟩ ⟨PI_blind Z ws sz _, PI_at E.2.2.2.2 hX hz hP _⟩ rfl rfl hls hst (lv_room (m := m) (pc := pc) (ls := ls) (rest := st) hrm) hdg hf
/-- Object's constructor -/
theorem o_init {x : Nat} (E : EE Z p s m args c cc own) (hml : c.maxLocals = nL) (hls : ls.size = nL) (hlk : Cond.methodLink own index objectInit ∈ gG) (hframes : 1 ≤ R.frames) (hlocals : (rest.map fun v => v.category).sum + 12 ≤ R.locals) (hdg : decode cc pc = .ok (.invokespecial index, 3)) (kk : W p l e R s m args below meth c H locs cells slots Q (F0 m (pc + 3) ls rest)) : W p l e R s m args below meth c H locs cells slots Q (F0 m pc ls (.ref x :: rest)) :=
  W.objInit E.1 E.2.1 E.2.2.1 (E.2.2.2.1 _ hlk) (E.2.2.2.1 _ gw_8) (E.2.2.2.1 _ gw_9) rfl (hls.trans hml.symm) rfl hdg hframes (by show 2 * 0 + _ + 12 ≤ _; omega) kk
end MAKE
section SIZED
variable {p : Program} {l : Launch} {e : Env} {R : Room} {s : State} {m : MethodId} {args : Array Value} {below : List Frame} {meth : Method} {c : Code} {H : Heap} {locs : List Loc} {cells slots : Nat} {Q : State → Prop} {cc : ByteArray} {pc : Nat} {ls : Array Slot} {rest : List Value} {Z : Gm} {own C : String} {index : Nat} {H0 : Heap} {A : Nat → Prop} {ws : va_W} {a sz : Nat}
/-! Writes as in the kit's own rows, with the heap's size kept beside. -/
theorem z_put (E : EE Z p s m args c cc own) {T : u_T} {N ci : Nat} (hin : ∀ w ∈ u_ws C T N, w ∈ gG) (ty0 : Nat → FieldType) (hty : ∀ k, k < N → parseFieldDescriptor (T k).2.2.1 = some (ty0 k)) (hnm : ∀ a, a < N → ∀ b, b < N → a ≠ b → (T a).2.1 ≠ (T b).2.1) (hz : H.size = sz) (hP : va_P (gD Z) vwCl ws H) (hD : va_D A ws) (hS0 : va_S A H0 H locs) (q0 : Nat) {fs : List Value} (he : ws[q0]? = some (a, .inr (ci, fs))) (hc : vwCl[ci]? = some (C, T, N)) (k : Nat) (hk : k < N) (hl : Cond.fieldLink own index C (T k).2.1 (T k).2.2.1 ∈ gG) (hT : (T k).1 = C) (hfin : (T k).2.2.2 = true → meth.name = "<init>" ∧ C = own) {ty : FieldType} {v : Value} (hd : parseFieldDescriptor (T k).2.2.1 = some ty) (hn : narrow ty v = v) (hfit : fits ty v = true) (hlen : k < fs.length) (hdg : decode cc pc = .ok (.putfield index, 3))
    (kk : ∀ (H1 : Heap) (locs1 : List Loc), H1.size = sz → va_P (gD Z) vwCl (ws.set q0 (a, .inr (ci, fs.set k v))) H1 → va_D A (ws.set q0 (a, .inr (ci, fs.set k v))) → va_S A H0 H1 locs1 → W p l e R s m args below meth c H1 locs1 cells slots Q (F0 m (pc + 3) ls rest)) : W p l e R s m args below meth c H locs cells slots Q (F0 m pc ls (v :: .ref a :: rest)) := by
  have hap := va_apart (own := own) E.2.2.2.1 hin ty0 hty hnm E.2.2.2.2 hc
  obtain ⟨r, h1, cell, q1, q2, q3, q4⟩ := hP q0 _ he
  have hr : r = (C, T, N) := Option.some.inj (h1.symm.trans hc)
  subst hr
  obtain ⟨hS, hfc, kC, hkC, hkind⟩ := E.2.2.2.2.1 ci _ hc
  obtain ⟨cf, kf, fi, f, hi, hsl⟩ := hS k hk
  have hlay := E.2.2.2.1 _ (hin _ (u_in_lay hk))
  have hst := (u_facts hfc hkC (u_lays E.2.2.2.1 hin hk) hi).1
  have hi' : s.fieldFound? C (T k).2.1 (T k).2.2.1 = some (cf, kf, fi, f) := by rw [hT] at hi; exact hi
  by_cases hf : (T k).2.2.2 = true
  · unfold u_lay at hlay
    rw [if_pos hf] at hlay
    obtain ⟨hin2, hC⟩ := hfin hf
    have hcf : m.cls = cf := by
      obtain ⟨_, _, c', _, _, _, -, -, hf', -, -, -, hown2, -⟩ := Cond.laysFinal_spec hlay
      have e1 : c' = cf := by have := hi.symm.trans hf'; simp at this; exact this.1.symm
      rw [hT, hC] at hown2
      rw [← e1]; exact Option.some.inj (E.2.2.1.symm.trans hown2)
    have h6 := u_fits hfc hkC hkind (Or.inr hlay) hi hd hn hfit
    refine W.putFinK E.1 E.2.1 E.2.2.1 (E.2.2.2.1 _ hl) hi' hst hcf hin2 (by rw [q2]; exact h6) q1 q3 (by rw [hsl]; exact k2_hasslot (q4 k hk)) rfl rfl hdg fun H' e1 e2 e3 => ?_
    rw [hsl] at e1 ⊢
    exact kk H' _ (e2.trans hz) (hP.set hD he ⟨_, hc, t_OB.to (V := updV (vp_V fs) k v) ⟨_, e1, q2, q3, t_set q4 hap hk v⟩ (fun j _ => vp_updV_set hlen v j)⟩ e3) (hD.set he) (hS0.put e2 e3 (hD.2 q0 _ he))
  · unfold u_lay at hlay
    rw [if_neg hf] at hlay
    have h6 := u_store hfc hkC hkind hlay hi hd hn hfit
    refine W.putK E.1 E.2.1 (f := f) ⟨E.2.2.1, E.2.2.2.1 _ hl, ⟨_, _, _, hi'⟩, hst⟩ (by rw [q2]; exact h6) q1 q3 (by rw [hsl]; exact k2_hasslot (q4 k hk)) rfl rfl hdg fun H' e1 e2 e3 => ?_
    rw [hsl] at e1 ⊢
    exact kk H' _ (e2.trans hz) (hP.set hD he ⟨_, hc, t_OB.to (V := updV (vp_V fs) k v) ⟨_, e1, q2, q3, t_set q4 hap hk v⟩ (fun j _ => vp_updV_set hlen v j)⟩ e3) (hD.set he) (hS0.put e2 e3 (hD.2 q0 _ he))
theorem z_iast (E : EE Z p s m args c cc own) (hz : H.size = sz) (hP : va_P (gD Z) vwCl ws H) (hD : va_D A ws) (hS : va_S A H0 H locs) (q0 : Nat) {n : Nat} {f : Nat → Int32} (ha : ws[q0]? = some (a, .inl (Z.2.2.1, n, .inl f))) {i x : Int32} {k : Nat} (hk : i.toNatClampNeg = k) (hin : vp_in i n) (hdg : decode cc pc = .ok (.iastore, 1))
    (kk : ∀ (H1 : Heap) (locs1 : List Loc), H1.size = sz → va_P (gD Z) vwCl (ws.set q0 (a, .inl (Z.2.2.1, n, .inl (upd f k x)))) H1 → va_D A (ws.set q0 (a, .inl (Z.2.2.1, n, .inl (upd f k x)))) → va_S A H0 H1 locs1 → W p l e R s m args below meth c H1 locs1 cells slots Q (F0 m (pc + 1) ls rest)) : W p l e R s m args below meth c H locs cells slots Q (F0 m pc ls (.int x :: .int i :: .ref a :: rest)) := by
  subst hk
  refine W.iast E.1 E.2.1 (hP q0 _ ha) ((E.2.2.2.2.2 0 (Z.2.2.1, .int) rfl).1 n (fun j => .int (f j))) (fun q => by cases q) (by show ¬ (i < 0 ∨ (arrV _ _ _).slots.size ≤ _); rw [arrV_size]; exact hin) rfl rfl hdg fun H1 e z oq => ?_
  refine kk H1 _ (z.trans hz) (hP.set hD ha ?_ oq) (hD.set ha) (hS.put z oq (hD.2 q0 _ ha))
  show H1[a]? = some (vp_cell _ _)
  rw [e]
  rw [vp_cell_i, vp_cell_i, arrV_store]
  congr 2
  funext q
  by_cases hq : q = i.toNatClampNeg
  · subst hq
    simp [updV, upd]
  · simp [updV, upd, hq]
theorem z_astq (E : EE Z p s m args c cc own) (hz : H.size = sz) (hP : va_P (gD Z) vwCl ws H) (hD : va_D A ws) (hS : va_S A H0 H locs) (q0 t0 qk ci : Nat) {cA : ClassId} {r : vw_C} {n v : Nat} {vs : List Value} {f : Nat → Option Nat} (ha : ws[q0]? = some (a, .inl (cA, n, .inr (.inr (.inr (.inr f)))))) (ht : (gT Z)[t0]? = some (cA, .object r.1)) (hv : ws[qk]? = some (v, .inr (ci, vs))) (hc : vwCl[ci]? = some r) {i : Int32} {k : Nat} (hk : i.toNatClampNeg = k) (hin : vp_in i n) (hdg : decode cc pc = .ok (.aastore, 1))
    (kk : ∀ (H1 : Heap) (locs1 : List Loc), H1.size = sz → va_P (gD Z) vwCl (ws.set q0 (a, .inl (cA, n, .inr (.inr (.inr (.inr (va_up f k (some v)))))))) H1 → va_D A (ws.set q0 (a, .inl (cA, n, .inr (.inr (.inr (.inr (va_up f k (some v)))))))) → va_S A H0 H1 locs1 → W p l e R s m args below meth c H1 locs1 cells slots Q (F0 m (pc + 1) ls rest)) : W p l e R s m args below meth c H locs cells slots Q (F0 m pc ls (.ref v :: .int i :: .ref a :: rest)) := by
  subst hk
  have hlt : i.toNatClampNeg < n := Nat.not_le.mp fun q => hin (Or.inr q)
  have h0 : ¬ i < 0 := fun q => hin (Or.inl q)
  obtain ⟨r', hr', cellV, g1, g2, g3, -⟩ := hP qk _ hv
  have hcls := (E.2.2.2.2.1 ci r hc).2
  obtain ⟨kA, comp, k1, k2, k3, -⟩ := (E.2.2.2.2.2 t0 _ ht).2
  have hcomp : comp = (gD Z).1 ci := Option.some.inj (k3.symm.trans hcls.1)
  subst hcomp
  obtain ⟨kC, hkC, -⟩ := hcls.2
  refine W.aast E.1 E.2.1 (hP q0 _ ha) (fun q h => by cases h) (fun h => by cases h) k1 k2 rfl hkC ⟨h0, by show _ < (arrV _ _ _).slots.size; rw [arrV_size]; exact hlt⟩ g1 (fun q h => by rw [g3] at h; cases h) (by rw [g2]; exact hkC) (by rw [g2]; exact va_assign hcls) rfl rfl hdg fun H1 e z oq => ?_
  refine kk H1 _ (z.trans hz) (hP.set hD ha ?_ oq) (hD.set ha) (hS.put z oq (hD.2 q0 _ ha))
  show H1[a]? = some (vp_cell _ _)
  rw [e]
  rw [vp_cell_q, vp_cell_q, arrV_store]
  congr 2
  funext q
  by_cases hq : q = i.toNatClampNeg
  · subst hq
    simp [updV, va_up, va_rf]
  · simp [updV, va_up, hq]
end SIZED
/-- the cells that come one behind the other are apart -/
theorem D_seq (q : Nat) (ws : va_W) (h : ∀ (k : Nat) (p : Nat × va_E), ws[k]? = some p → p.1 = q + k) : va_D (fun z => q ≤ z) ws := ⟨fun i j p p2 h1 h2 e => by rw [h i p h1, h j p2 h2] at e; omega, fun k p hk => by show q ≤ p.1; rw [h k p hk]; omega⟩
end
section
/-! The constructors of Block, Route, Train. -/
theorem k_X0_init : CardI yX0_init cX0_init 1 := ⟨gw_34, gw_28, by decide +kernel, by decide +kernel, rfl, gw_33⟩
theorem k_X2_init : CardI yX2_init cX2_init 1 := ⟨gw_39, gw_30, by decide +kernel, by decide +kernel, rfl, gw_38⟩
theorem k_X3_init : CardI yX3_init cX3_init 1 := ⟨gw_43, gw_32, by decide +kernel, by decide +kernel, rfl, gw_42⟩
theorem k_X1_init : CardI yX1_init cX1_init 2 := ⟨gw_17, gw_12, by decide +kernel, by decide +kernel, rfl, gw_16⟩
theorem k_X4_init : CardI yX4_init cX4_init 1 := ⟨gw_6, gw_2, by decide +kernel, by decide +kernel, rfl, gw_5⟩
set_option maxHeartbeats 4000000 in
set_option maxRecDepth 20000 in
theorem c_X0_init (l : Launch) (Z : Gm) (q : Nat) : Met l yX0_init (.code yX0_init cX0_init 1 none :: gG) ({ frames := 1, cells := 0, slots := 0, locals := 12 }) (PI Z [(q, .inr (0, [.int 0, .int 0, .int 0, .int 0]))] (q + 1) [.ref q]) (QI Z [(q, .inr (0, [.int 0, .int (-1), .int (-1), .int 0]))] (q + 1) q) 0 0 (fun x => q ≤ x) := by
  refine met_ofI (by decide +kernel) (Nat.le_of_ble_eq_true rfl) rfl ?_
  intro p e s m args below meth c ls E hX hin hr hlk hml hsz hP hl
  have E : EE Z p s m args c cX0_init RX0 := E
  have hl : lv_has ls 1 [(0, .ref q)] := hl
  have hS : va_S (fun z => q ≤ z) s.heap s.heap [] := va_S.rf
  have hz : s.heap.size = q + 1 := hsz
  refine lv_aload_n E.1 E.2.1 dX0_init_0 rfl (lv_at hl 0 rfl) ?_
  refine o_init E hml hl.1 gw_35 (Nat.le_of_ble_eq_true rfl) (Nat.le_of_ble_eq_true rfl) dX0_init_1 ?_
  refine lv_aload_n E.1 E.2.1 dX0_init_4 rfl (lv_at hl 0 rfl) ?_
  refine lv_iconst (v := (-1)) E.1 E.2.1 dX0_init_5 (by decide) ?_
  have hD : va_D (fun z => q ≤ z) [(q, .inr (0, [.int 0, .int 0, .int 0, .int 0]))] := D_seq q _ (fun k p h => by match k, h with | 0, h => cases h; rfl | k + 1, h => cases h)
  refine z_put E gC0 tyX0 tyX0_ok nmX0 hz hP hD hS 0 rfl rfl 1 (by decide) gw_36 rfl (fun h => by cases h) (ty := .int) (v := .int (-1)) (by decide +kernel) rfl rfl (Nat.le_of_ble_eq_true rfl) dX0_init_6 (fun H locs hz hP _ hS => ?_)
  have hP : va_P (gD Z) vwCl [(q, .inr (0, [.int 0, .int (-1), .int 0, .int 0]))] H := hP
  refine lv_aload_n E.1 E.2.1 dX0_init_9 rfl (lv_at hl 0 rfl) ?_
  refine lv_iconst (v := (-1)) E.1 E.2.1 dX0_init_10 (by decide) ?_
  have hD : va_D (fun z => q ≤ z) [(q, .inr (0, [.int 0, .int (-1), .int 0, .int 0]))] := D_seq q _ (fun k p h => by match k, h with | 0, h => cases h; rfl | k + 1, h => cases h)
  refine z_put E gC0 tyX0 tyX0_ok nmX0 hz hP hD hS 0 rfl rfl 2 (by decide) gw_37 rfl (fun h => by cases h) (ty := .int) (v := .int (-1)) (by decide +kernel) rfl rfl (Nat.le_of_ble_eq_true rfl) dX0_init_11 (fun H locs hz hP _ hS => ?_)
  have hP : va_P (gD Z) vwCl [(q, .inr (0, [.int 0, .int (-1), .int (-1), .int 0]))] H := hP
  exact W.vret E.1 E.2.1 hr (fun t ht _ => ⟨rfl, by rw [ht]; exact hz, by rw [ht]; exact hP, fun x hx => by rw [ht]; exact hS.2.1 x (by omega) (Nat.not_le.mpr hx)⟩) hS.2.2 dX0_init_14 (hlocks := hlk)
set_option maxHeartbeats 4000000 in
set_option maxRecDepth 20000 in
theorem c_X2_init (l : Launch) (Z : Gm) (q : Nat) : Met l yX2_init (.code yX2_init cX2_init 1 none :: gG) ({ frames := 1, cells := 1, slots := 5, locals := 12 }) (PI Z [(q, .inr (2, [.int 0, .int 0, .int 0, .int 0, .null]))] (q + 1) [.ref q]) (QI Z [(q, .inr (2, [.int 0, .int 0, .int 0, .int 0, .ref (q + 1)])), (q + 1, .inl (Z.2.2.1, 5, .inl (fun _ => 0)))] (q + 2) q) 1 5 (fun x => q ≤ x) := by
  refine met_ofI (by decide +kernel) (Nat.le_of_ble_eq_true rfl) rfl ?_
  intro p e s m args below meth c ls E hX hin hr hlk hml hsz hP hl
  have E : EE Z p s m args c cX2_init RX2 := E
  have hl : lv_has ls 1 [(0, .ref q)] := hl
  have hS : va_S (fun z => q ≤ z) s.heap s.heap [] := va_S.rf
  have hz : s.heap.size = q + 1 := hsz
  refine lv_aload_n E.1 E.2.1 dX2_init_0 rfl (lv_at hl 0 rfl) ?_
  refine o_init E hml hl.1 gw_40 (Nat.le_of_ble_eq_true rfl) (Nat.le_of_ble_eq_true rfl) dX2_init_1 ?_
  refine lv_aload_n E.1 E.2.1 dX2_init_4 rfl (lv_at hl 0 rfl) ?_
  refine lv_iconst (v := 5) E.1 E.2.1 dX2_init_5 (by decide) ?_
  refine n_int (n := 5) E hP hS gw_3 (by decide) rfl (by decide) (Nat.le_of_ble_eq_true rfl) (Nat.le_of_ble_eq_true rfl) dX2_init_6 (h := q + 1) hz (fun H hz hP hS => ?_)
  have hP : va_P (gD Z) vwCl [(q, .inr (2, [.int 0, .int 0, .int 0, .int 0, .null])), (q + 1, .inl (Z.2.2.1, 5, .inl (fun _ => 0)))] H := hP
  have hz : H.size = q + 2 := hz
  have hD : va_D (fun z => q ≤ z) [(q, .inr (2, [.int 0, .int 0, .int 0, .int 0, .null])), (q + 1, .inl (Z.2.2.1, 5, .inl (fun _ => 0)))] := D_seq q _ (fun k p h => by match k, h with | 0, h => cases h; rfl | 1, h => cases h; rfl | k + 2, h => cases h)
  refine z_put E gC2 tyX2 tyX2_ok nmX2 hz hP hD hS 0 rfl rfl 4 (by decide) gw_41 rfl (fun _ => ⟨hin, rfl⟩) (ty := .array .int) (v := .ref (q + 1)) (by decide +kernel) rfl rfl (Nat.le_of_ble_eq_true rfl) dX2_init_8 (fun H locs hz hP _ hS => ?_)
  have hP : va_P (gD Z) vwCl [(q, .inr (2, [.int 0, .int 0, .int 0, .int 0, .ref (q + 1)])), (q + 1, .inl (Z.2.2.1, 5, .inl (fun _ => 0)))] H := hP
  exact W.vret E.1 E.2.1 hr (fun t ht _ => ⟨rfl, by rw [ht]; exact hz, by rw [ht]; exact hP, fun x hx => by rw [ht]; exact hS.2.1 x (by omega) (Nat.not_le.mpr hx)⟩) hS.2.2 dX2_init_11 (hlocks := hlk)
set_option maxHeartbeats 4000000 in
set_option maxRecDepth 20000 in
theorem c_X3_init (l : Launch) (Z : Gm) (q : Nat) : Met l yX3_init (.code yX3_init cX3_init 1 none :: gG) ({ frames := 1, cells := 3, slots := 24, locals := 12 }) (PI Z [(q, .inr (3, [.int 0, .int 0, .int 0, .null, .null, .int 0, .int 0, .int 0, .int 0, .int 0, .int 0, .int 0, .int 0, .int 0, .int 0, .null]))] (q + 1) [.ref q]) (QI Z [(q, .inr (3, [.int 0, .int 0, .int 0, .ref (q + 1), .ref (q + 2), .int 0, .int (-1), .int 0, .int (-1), .int 0, .int 0, .int 0, .int 0, .int 0, .int (-1), .ref (q + 3)])), (q + 1, .inl (Z.2.2.1, 8, .inl (fun _ => 0))), (q + 2, .inl (Z.2.2.1, 8, .inl (fun _ => 0))), (q + 3, .inl (Z.2.2.1, 8, .inl (fun _ => 0)))] (q + 4) q) 3 24 (fun x => q ≤ x) := by
  refine met_ofI (by decide +kernel) (Nat.le_of_ble_eq_true rfl) rfl ?_
  intro p e s m args below meth c ls E hX hin hr hlk hml hsz hP hl
  have E : EE Z p s m args c cX3_init RX3 := E
  have hl : lv_has ls 1 [(0, .ref q)] := hl
  have hS : va_S (fun z => q ≤ z) s.heap s.heap [] := va_S.rf
  have hz : s.heap.size = q + 1 := hsz
  refine lv_aload_n E.1 E.2.1 dX3_init_0 rfl (lv_at hl 0 rfl) ?_
  refine o_init E hml hl.1 gw_44 (Nat.le_of_ble_eq_true rfl) (Nat.le_of_ble_eq_true rfl) dX3_init_1 ?_
  refine lv_aload_n E.1 E.2.1 dX3_init_4 rfl (lv_at hl 0 rfl) ?_
  refine lv_bipush (v := 8) E.1 E.2.1 dX3_init_5 (by decide) ?_
  refine n_int (n := 8) E hP hS gw_3 (by decide) rfl (by decide) (Nat.le_of_ble_eq_true rfl) (Nat.le_of_ble_eq_true rfl) dX3_init_7 (h := q + 1) hz (fun H hz hP hS => ?_)
  have hP : va_P (gD Z) vwCl [(q, .inr (3, [.int 0, .int 0, .int 0, .null, .null, .int 0, .int 0, .int 0, .int 0, .int 0, .int 0, .int 0, .int 0, .int 0, .int 0, .null])), (q + 1, .inl (Z.2.2.1, 8, .inl (fun _ => 0)))] H := hP
  have hz : H.size = q + 2 := hz
  have hD : va_D (fun z => q ≤ z) [(q, .inr (3, [.int 0, .int 0, .int 0, .null, .null, .int 0, .int 0, .int 0, .int 0, .int 0, .int 0, .int 0, .int 0, .int 0, .int 0, .null])), (q + 1, .inl (Z.2.2.1, 8, .inl (fun _ => 0)))] := D_seq q _ (fun k p h => by match k, h with | 0, h => cases h; rfl | 1, h => cases h; rfl | k + 2, h => cases h)
  refine z_put E gC3 tyX3 tyX3_ok nmX3 hz hP hD hS 0 rfl rfl 3 (by decide) gw_45 rfl (fun _ => ⟨hin, rfl⟩) (ty := .array .int) (v := .ref (q + 1)) (by decide +kernel) rfl rfl (Nat.le_of_ble_eq_true rfl) dX3_init_9 (fun H locs hz hP _ hS => ?_)
  have hP : va_P (gD Z) vwCl [(q, .inr (3, [.int 0, .int 0, .int 0, .ref (q + 1), .null, .int 0, .int 0, .int 0, .int 0, .int 0, .int 0, .int 0, .int 0, .int 0, .int 0, .null])), (q + 1, .inl (Z.2.2.1, 8, .inl (fun _ => 0)))] H := hP
  refine lv_aload_n E.1 E.2.1 dX3_init_12 rfl (lv_at hl 0 rfl) ?_
  refine lv_bipush (v := 8) E.1 E.2.1 dX3_init_13 (by decide) ?_
  refine n_int (n := 8) E hP hS gw_3 (by decide) rfl (by decide) (Nat.le_of_ble_eq_true rfl) (Nat.le_of_ble_eq_true rfl) dX3_init_15 (h := q + 2) hz (fun H hz hP hS => ?_)
  have hP : va_P (gD Z) vwCl [(q, .inr (3, [.int 0, .int 0, .int 0, .ref (q + 1), .null, .int 0, .int 0, .int 0, .int 0, .int 0, .int 0, .int 0, .int 0, .int 0, .int 0, .null])), (q + 1, .inl (Z.2.2.1, 8, .inl (fun _ => 0))), (q + 2, .inl (Z.2.2.1, 8, .inl (fun _ => 0)))] H := hP
  have hz : H.size = q + 3 := hz
  have hD : va_D (fun z => q ≤ z) [(q, .inr (3, [.int 0, .int 0, .int 0, .ref (q + 1), .null, .int 0, .int 0, .int 0, .int 0, .int 0, .int 0, .int 0, .int 0, .int 0, .int 0, .null])), (q + 1, .inl (Z.2.2.1, 8, .inl (fun _ => 0))), (q + 2, .inl (Z.2.2.1, 8, .inl (fun _ => 0)))] := D_seq q _ (fun k p h => by match k, h with | 0, h => cases h; rfl | 1, h => cases h; rfl | 2, h => cases h; rfl | k + 3, h => cases h)
  refine z_put E gC3 tyX3 tyX3_ok nmX3 hz hP hD hS 0 rfl rfl 4 (by decide) gw_46 rfl (fun _ => ⟨hin, rfl⟩) (ty := .array .int) (v := .ref (q + 2)) (by decide +kernel) rfl rfl (Nat.le_of_ble_eq_true rfl) dX3_init_17 (fun H locs hz hP _ hS => ?_)
  have hP : va_P (gD Z) vwCl [(q, .inr (3, [.int 0, .int 0, .int 0, .ref (q + 1), .ref (q + 2), .int 0, .int 0, .int 0, .int 0, .int 0, .int 0, .int 0, .int 0, .int 0, .int 0, .null])), (q + 1, .inl (Z.2.2.1, 8, .inl (fun _ => 0))), (q + 2, .inl (Z.2.2.1, 8, .inl (fun _ => 0)))] H := hP
  refine lv_aload_n E.1 E.2.1 dX3_init_20 rfl (lv_at hl 0 rfl) ?_
  refine lv_iconst (v := (-1)) E.1 E.2.1 dX3_init_21 (by decide) ?_
  have hD : va_D (fun z => q ≤ z) [(q, .inr (3, [.int 0, .int 0, .int 0, .ref (q + 1), .ref (q + 2), .int 0, .int 0, .int 0, .int 0, .int 0, .int 0, .int 0, .int 0, .int 0, .int 0, .null])), (q + 1, .inl (Z.2.2.1, 8, .inl (fun _ => 0))), (q + 2, .inl (Z.2.2.1, 8, .inl (fun _ => 0)))] := D_seq q _ (fun k p h => by match k, h with | 0, h => cases h; rfl | 1, h => cases h; rfl | 2, h => cases h; rfl | k + 3, h => cases h)
  refine z_put E gC3 tyX3 tyX3_ok nmX3 hz hP hD hS 0 rfl rfl 6 (by decide) gw_47 rfl (fun h => by cases h) (ty := .int) (v := .int (-1)) (by decide +kernel) rfl rfl (Nat.le_of_ble_eq_true rfl) dX3_init_22 (fun H locs hz hP _ hS => ?_)
  have hP : va_P (gD Z) vwCl [(q, .inr (3, [.int 0, .int 0, .int 0, .ref (q + 1), .ref (q + 2), .int 0, .int (-1), .int 0, .int 0, .int 0, .int 0, .int 0, .int 0, .int 0, .int 0, .null])), (q + 1, .inl (Z.2.2.1, 8, .inl (fun _ => 0))), (q + 2, .inl (Z.2.2.1, 8, .inl (fun _ => 0)))] H := hP
  refine lv_aload_n E.1 E.2.1 dX3_init_25 rfl (lv_at hl 0 rfl) ?_
  refine lv_iconst (v := (-1)) E.1 E.2.1 dX3_init_26 (by decide) ?_
  have hD : va_D (fun z => q ≤ z) [(q, .inr (3, [.int 0, .int 0, .int 0, .ref (q + 1), .ref (q + 2), .int 0, .int (-1), .int 0, .int 0, .int 0, .int 0, .int 0, .int 0, .int 0, .int 0, .null])), (q + 1, .inl (Z.2.2.1, 8, .inl (fun _ => 0))), (q + 2, .inl (Z.2.2.1, 8, .inl (fun _ => 0)))] := D_seq q _ (fun k p h => by match k, h with | 0, h => cases h; rfl | 1, h => cases h; rfl | 2, h => cases h; rfl | k + 3, h => cases h)
  refine z_put E gC3 tyX3 tyX3_ok nmX3 hz hP hD hS 0 rfl rfl 8 (by decide) gw_48 rfl (fun h => by cases h) (ty := .int) (v := .int (-1)) (by decide +kernel) rfl rfl (Nat.le_of_ble_eq_true rfl) dX3_init_27 (fun H locs hz hP _ hS => ?_)
  have hP : va_P (gD Z) vwCl [(q, .inr (3, [.int 0, .int 0, .int 0, .ref (q + 1), .ref (q + 2), .int 0, .int (-1), .int 0, .int (-1), .int 0, .int 0, .int 0, .int 0, .int 0, .int 0, .null])), (q + 1, .inl (Z.2.2.1, 8, .inl (fun _ => 0))), (q + 2, .inl (Z.2.2.1, 8, .inl (fun _ => 0)))] H := hP
  refine lv_aload_n E.1 E.2.1 dX3_init_30 rfl (lv_at hl 0 rfl) ?_
  refine lv_iconst (v := (-1)) E.1 E.2.1 dX3_init_31 (by decide) ?_
  have hD : va_D (fun z => q ≤ z) [(q, .inr (3, [.int 0, .int 0, .int 0, .ref (q + 1), .ref (q + 2), .int 0, .int (-1), .int 0, .int (-1), .int 0, .int 0, .int 0, .int 0, .int 0, .int 0, .null])), (q + 1, .inl (Z.2.2.1, 8, .inl (fun _ => 0))), (q + 2, .inl (Z.2.2.1, 8, .inl (fun _ => 0)))] := D_seq q _ (fun k p h => by match k, h with | 0, h => cases h; rfl | 1, h => cases h; rfl | 2, h => cases h; rfl | k + 3, h => cases h)
  refine z_put E gC3 tyX3 tyX3_ok nmX3 hz hP hD hS 0 rfl rfl 14 (by decide) gw_49 rfl (fun h => by cases h) (ty := .int) (v := .int (-1)) (by decide +kernel) rfl rfl (Nat.le_of_ble_eq_true rfl) dX3_init_32 (fun H locs hz hP _ hS => ?_)
  have hP : va_P (gD Z) vwCl [(q, .inr (3, [.int 0, .int 0, .int 0, .ref (q + 1), .ref (q + 2), .int 0, .int (-1), .int 0, .int (-1), .int 0, .int 0, .int 0, .int 0, .int 0, .int (-1), .null])), (q + 1, .inl (Z.2.2.1, 8, .inl (fun _ => 0))), (q + 2, .inl (Z.2.2.1, 8, .inl (fun _ => 0)))] H := hP
  refine lv_aload_n E.1 E.2.1 dX3_init_35 rfl (lv_at hl 0 rfl) ?_
  refine lv_bipush (v := 8) E.1 E.2.1 dX3_init_36 (by decide) ?_
  refine n_int (n := 8) E hP hS gw_3 (by decide) rfl (by decide) (Nat.le_of_ble_eq_true rfl) (Nat.le_of_ble_eq_true rfl) dX3_init_38 (h := q + 3) hz (fun H hz hP hS => ?_)
  have hP : va_P (gD Z) vwCl [(q, .inr (3, [.int 0, .int 0, .int 0, .ref (q + 1), .ref (q + 2), .int 0, .int (-1), .int 0, .int (-1), .int 0, .int 0, .int 0, .int 0, .int 0, .int (-1), .null])), (q + 1, .inl (Z.2.2.1, 8, .inl (fun _ => 0))), (q + 2, .inl (Z.2.2.1, 8, .inl (fun _ => 0))), (q + 3, .inl (Z.2.2.1, 8, .inl (fun _ => 0)))] H := hP
  have hz : H.size = q + 4 := hz
  have hD : va_D (fun z => q ≤ z) [(q, .inr (3, [.int 0, .int 0, .int 0, .ref (q + 1), .ref (q + 2), .int 0, .int (-1), .int 0, .int (-1), .int 0, .int 0, .int 0, .int 0, .int 0, .int (-1), .null])), (q + 1, .inl (Z.2.2.1, 8, .inl (fun _ => 0))), (q + 2, .inl (Z.2.2.1, 8, .inl (fun _ => 0))), (q + 3, .inl (Z.2.2.1, 8, .inl (fun _ => 0)))] := D_seq q _ (fun k p h => by match k, h with | 0, h => cases h; rfl | 1, h => cases h; rfl | 2, h => cases h; rfl | 3, h => cases h; rfl | k + 4, h => cases h)
  refine z_put E gC3 tyX3 tyX3_ok nmX3 hz hP hD hS 0 rfl rfl 15 (by decide) gw_50 rfl (fun _ => ⟨hin, rfl⟩) (ty := .array .int) (v := .ref (q + 3)) (by decide +kernel) rfl rfl (Nat.le_of_ble_eq_true rfl) dX3_init_40 (fun H locs hz hP _ hS => ?_)
  have hP : va_P (gD Z) vwCl [(q, .inr (3, [.int 0, .int 0, .int 0, .ref (q + 1), .ref (q + 2), .int 0, .int (-1), .int 0, .int (-1), .int 0, .int 0, .int 0, .int 0, .int 0, .int (-1), .ref (q + 3)])), (q + 1, .inl (Z.2.2.1, 8, .inl (fun _ => 0))), (q + 2, .inl (Z.2.2.1, 8, .inl (fun _ => 0))), (q + 3, .inl (Z.2.2.1, 8, .inl (fun _ => 0)))] H := hP
  exact W.vret E.1 E.2.1 hr (fun t ht _ => ⟨rfl, by rw [ht]; exact hz, by rw [ht]; exact hP, fun x hx => by rw [ht]; exact hS.2.1 x (by omega) (Nat.not_le.mpr hx)⟩) hS.2.2 dX3_init_43 (hlocks := hlk)
end
section
/-! The constructor of Line, and of the bay. -/
def pcell (Z : Gm) (w nb nr nt m : Nat) : va_E :=
  if m = 2 then .inl (Z.2.2.2.1, 16, .inr (.inr (.inr (.inr (fun j => if j < nb then some (ad Z (cBk w j)) else none)))))
  else if m = 3 then .inl (Z.2.2.2.2.1, 16, .inr (.inr (.inr (.inr (fun j => if j < nr then some (ad Z (cRt w j)) else none)))))
  else if m = 4 then .inl (Z.2.2.2.2.2, 8, .inr (.inr (.inr (.inr (fun j => if j < nt then some (ad Z (cTr w j)) else none)))))
  else lineCell Z w initS m
def pw (Z : Gm) (w nb nr nt N : Nat) : va_W := (List.range N).map (fun m => (ad Z (1 + 85 * w + m), pcell Z w nb nr nt m))
theorem pw_at {Z : Gm} {w nb nr nt N m : Nat} (h : m < N) : (pw Z w nb nr nt N)[m]? = some (ad Z (1 + 85 * w + m), pcell Z w nb nr nt m) := by simp [pw, h]
theorem pw_x {Z : Gm} {w nb nr nt N m c : Nat} {x : va_E} (h : m < N) (hc : 1 + 85 * w + m = c) (hx : pcell Z w nb nr nt m = x) : (pw Z w nb nr nt N)[m]? = some (ad Z c, x) := by rw [pw_at h, hc, hx]
theorem pw_s (Z : Gm) (w nb nr nt N : Nat) : pw Z w nb nr nt (N + 1) = pw Z w nb nr nt N ++ [(ad Z (1 + 85 * w + N), pcell Z w nb nr nt N)] := by simp [pw, List.range_succ]
theorem pw_get {Z : Gm} {w nb nr nt N k : Nat} {p : Nat × va_E} (h : (pw Z w nb nr nt N)[k]? = some p) : k < N ∧ p = (ad Z (1 + 85 * w + k), pcell Z w nb nr nt k) := by
  have hk : k < N := by
    have := (List.getElem?_eq_some_iff.mp h).1
    simpa [pw] using this
  rw [pw_at hk] at h
  exact ⟨hk, (Option.some.inj h).symm⟩
/-- one cell is another -/
theorem pw_set {Z : Gm} {w nb nr nt nb' nr' nt' N i c : Nat} {x : va_E} (hi : i < N) (hc : 1 + 85 * w + i = c) (h1 : pcell Z w nb' nr' nt' i = x) (h2 : ∀ m, m ≠ i → pcell Z w nb' nr' nt' m = pcell Z w nb nr nt m) : (pw Z w nb nr nt N).set i (ad Z c, x) = pw Z w nb' nr' nt' N := by
  subst hc
  apply List.ext_getElem?
  intro k
  by_cases hk : k < N
  · rw [List.getElem?_set, pw_at hk, pw_at hk]
    by_cases hik : i = k
    · subst hik
      rw [if_pos rfl, if_pos (by simp [pw]; omega), h1]
    · rw [if_neg hik, h2 k (Ne.symm hik)]
  · rw [List.getElem?_eq_none (by simp [pw]; omega), List.getElem?_eq_none (by simp [pw]; omega)]
theorem va_P_last {D : va_G} {cl : List vw_C} {ws : va_W} {x : Nat × va_E} {H : Heap} (h : va_P D cl (ws ++ [x]) H) : va_P D cl [x] H := by
  intro k p hk
  refine h (ws.length + k) p ?_
  rw [List.getElem?_append_right (by omega), Nat.add_sub_cancel_left]
  exact hk
theorem va_P_init {D : va_G} {cl : List vw_C} {ws w2 : va_W} {H : Heap} (h : va_P D cl (ws ++ w2) H) : va_P D cl ws H := by
  intro k p hk
  refine h k p ?_
  rw [List.getElem?_append_left (List.getElem?_eq_some_iff.mp hk).1]
  exact hk
theorem va_P_comb {D : va_G} {cl : List vw_C} {ws w2 : va_W} {H H1 : Heap} {q : Nat} (h : va_P D cl ws H) (hlt : ∀ (k : Nat) (p : Nat × va_E), ws[k]? = some p → p.1 < q) (hk : ∀ x : Nat, x < q → H1[x]? = H[x]?) (h2 : va_P D cl w2 H1) : va_P D cl (ws ++ w2) H1 := (h.kept fun k p hp => hk p.1 (hlt k p hp)).app h2
theorem pc_bk {Z : Gm} {w nb nr nt k : Nat} (hk : k < 16) : pcell Z w nb nr nt (5 + k) = .inr (0, [.int 0, .int (-1), .int (-1), .int 0]) := by
  unfold pcell
  rw [if_neg (by omega), if_neg (by omega), if_neg (by omega)]
  unfold lineCell
  rw [if_neg (by omega), if_neg (by omega), if_neg (by omega), if_neg (by omega), if_neg (by omega), if_pos (by omega)]
  rfl
theorem pc_rt {Z : Gm} {w nb nr nt k : Nat} (hk : k < 16) : pcell Z w nb nr nt (21 + 2 * k) = .inr (2, [.int 0, .int 0, .int 0, .int 0, .ref (ad Z (cRb w k))]) := by
  unfold pcell
  rw [if_neg (by omega), if_neg (by omega), if_neg (by omega)]
  unfold lineCell
  rw [if_neg (by omega), if_neg (by omega), if_neg (by omega), if_neg (by omega), if_neg (by omega), if_neg (by omega), if_pos (by omega), if_pos (by omega), show (21 + 2 * k - 21) / 2 = k by omega]
  rfl
theorem pc_rb {Z : Gm} {w nb nr nt k : Nat} (hk : k < 16) : pcell Z w nb nr nt (22 + 2 * k) = .inl (Z.2.2.1, 5, .inl (fun _ => 0)) := by
  unfold pcell
  rw [if_neg (by omega), if_neg (by omega), if_neg (by omega)]
  unfold lineCell
  rw [if_neg (by omega), if_neg (by omega), if_neg (by omega), if_neg (by omega), if_neg (by omega), if_neg (by omega), if_pos (by omega), if_neg (by omega)]
  rfl
theorem pc_tr {Z : Gm} {w nb nr nt k : Nat} (hk : k < 8) : pcell Z w nb nr nt (53 + 4 * k) = .inr (3, [.int 0, .int 0, .int 0, .ref (ad Z (cSt w k)), .ref (ad Z (cTm w k)), .int 0, .int (-1), .int 0, .int (-1), .int 0, .int 0, .int 0, .int 0, .int 0, .int (-1), .ref (ad Z (cWf w k))]) := by
  unfold pcell
  rw [if_neg (by omega), if_neg (by omega), if_neg (by omega)]
  unfold lineCell
  rw [if_neg (by omega), if_neg (by omega), if_neg (by omega), if_neg (by omega), if_neg (by omega), if_neg (by omega), if_neg (by omega), if_pos (by omega), show (53 + 4 * k - 53) / 4 = k by omega]
  rfl
theorem pc_ta {Z : Gm} {w nb nr nt k i : Nat} (hk : k < 8) (hi : 1 ≤ i ∧ i ≤ 3) : pcell Z w nb nr nt (53 + 4 * k + i) = .inl (Z.2.2.1, 8, .inl (fun _ => 0)) := by
  unfold pcell
  rw [if_neg (by omega), if_neg (by omega), if_neg (by omega)]
  unfold lineCell
  rw [if_neg (by omega), if_neg (by omega), if_neg (by omega), if_neg (by omega), if_neg (by omega), if_neg (by omega), if_neg (by omega), if_neg (by omega)]
  rcases (show i = 1 ∨ i = 2 ∨ i = 3 by omega) with rfl | rfl | rfl
  · rw [if_pos (by omega)]; rfl
  · rw [if_neg (by omega), if_pos (by omega)]; rfl
  · rw [if_neg (by omega), if_neg (by omega)]; rfl
theorem pc_0 {Z : Gm} {w nb nr nt : Nat} : pcell Z w nb nr nt 0 = .inr (1, fLn Z w initS) := rfl
theorem up_some {α : Type} {n : Nat} {g : Nat → α} : va_up (fun j => if j < n then some (g j) else none) n (some (g n)) = fun j => if j < n + 1 then some (g j) else none := by
  funext j
  show (if j = n then some (g n) else if j < n then some (g j) else none) = if j < n + 1 then some (g j) else none
  by_cases h : j = n
  · subst h; simp
  · by_cases h2 : j < n
    · rw [if_neg h, if_pos h2, if_pos (by omega)]
    · rw [if_neg h, if_neg h2, if_neg (by omega)]
theorem none_lt0 {α : Type} {g : Nat → α} : (fun j : Nat => if j < 0 then some (g j) else none) = fun _ => none := funext fun j => if_neg (Nat.not_lt_zero j)
/-- a whole Line, new -/
def lwl (Z : Gm) (w : Nat) : va_W := (List.range 85).map (fun m => (ad Z (1 + 85 * w + m), lineCell Z w initS m))
theorem cell_cg {cA : ClassId} {n : Nat} {f g : Nat → Option Nat} (h : ∀ j, j < n → f j = g j) : vp_cell cA (n, .inr (.inr (.inr (.inr f)))) = vp_cell cA (n, .inr (.inr (.inr (.inr g)))) := by
  rw [vp_cell_q, vp_cell_q]
  unfold arrV
  have e : (Array.ofFn (n := n) fun j => va_rf (f j.val)) = Array.ofFn (n := n) fun j => va_rf (g j.val) := congrArg Array.ofFn (funext fun j => by rw [h j.val j.isLt])
  rw [e]
theorem pw_full {Z : Gm} {w : Nat} {H : Heap} (h : va_P (gD Z) vwCl (pw Z w 16 16 8 85) H) : va_P (gD Z) vwCl (lwl Z w) H := by
  intro m p hm
  have hm85 : m < 85 := by
    have := (List.getElem?_eq_some_iff.mp hm).1
    simpa [lwl] using this
  have e : (lwl Z w)[m]? = some (ad Z (1 + 85 * w + m), lineCell Z w initS m) := by simp [lwl, hm85]
  rw [e] at hm
  cases hm
  have h1 := h m _ (pw_at hm85)
  unfold pcell at h1
  by_cases h2 : m = 2
  · subst h2
    have h3 : H[ad Z (1 + 85 * w + 2)]? = some (vp_cell _ _) := h1
    rw [cell_cg (g := fun j => some (ad Z (cBk w j))) (fun j hj => if_pos hj)] at h3
    exact h3
  rw [if_neg h2] at h1
  by_cases h2' : m = 3
  · subst h2'
    have h3 : H[ad Z (1 + 85 * w + 3)]? = some (vp_cell _ _) := h1
    rw [cell_cg (g := fun j => some (ad Z (cRt w j))) (fun j hj => if_pos hj)] at h3
    exact h3
  rw [if_neg h2'] at h1
  by_cases h2'' : m = 4
  · subst h2''
    have h3 : H[ad Z (1 + 85 * w + 4)]? = some (vp_cell _ _) := h1
    rw [cell_cg (g := fun j => some (ad Z (cTr w j))) (fun j hj => if_pos hj)] at h3
    exact h3
  rw [if_neg h2''] at h1
  exact h1
theorem pw_D {Z : Gm} {w nb nr nt N q : Nat} (hq : ∀ m, m < 85 → ad Z (1 + 85 * w + m) = q + m) (hN : N ≤ 85) : va_D (fun z => q ≤ z) (pw Z w nb nr nt N) := D_seq q _ (fun k p h => by
  obtain ⟨hk, rfl⟩ := pw_get h
  exact hq k (by omega))
theorem pw_lt {Z : Gm} {w nb nr nt N q : Nat} (hq : ∀ m, m < 85 → ad Z (1 + 85 * w + m) = q + m) (hN : N ≤ 85) : ∀ (k : Nat) (p : Nat × va_E), (pw Z w nb nr nt N)[k]? = some p → p.1 < q + N := fun k p h => by
  obtain ⟨hk, rfl⟩ := pw_get h
  show ad Z (1 + 85 * w + k) < q + N
  rw [hq k (by omega)]
  omega

theorem upd_two (i : Nat) : upd (fun j => if j < i then (2 : Int32) else 0) i 2 = fun j => if j < i + 1 then 2 else 0 := by
  funext j
  show (if j = i then (2 : Int32) else if j < i then 2 else 0) = if j < i + 1 then 2 else 0
  by_cases h : j = i
  · subst h; simp
  · by_cases h2 : j < i
    · rw [if_neg h, if_pos h2, if_pos (by omega)]
    · rw [if_neg h, if_neg h2, if_neg (by omega)]
theorem pw_5 (Z : Gm) (w : Nat) : pw Z w 0 0 0 5 = [(ad Z (cLn w), .inr (1, [.ref (ad Z (cPl w)), .ref (ad Z (cBs w)), .int 0, .ref (ad Z (cRs w)), .int 0, .ref (ad Z (cTs w)), .int 0, .int 0, .int 2, .int 0])), (ad Z (cPl w), .inl (Z.2.2.1, 6, .inl (fun j => if j < 6 then 2 else 0))), (ad Z (cBs w), .inl (Z.2.2.2.1, 16, .inr (.inr (.inr (.inr (fun _ => none)))))), (ad Z (cRs w), .inl (Z.2.2.2.2.1, 16, .inr (.inr (.inr (.inr (fun _ => none)))))), (ad Z (cTs w), .inl (Z.2.2.2.2.2, 8, .inr (.inr (.inr (.inr (fun _ => none))))))] := by
  have e0 : (fun j : Nat => if j < 0 then some (ad Z (cBk w j)) else none) = fun _ => none := none_lt0
  have e1 : (fun j : Nat => if j < 0 then some (ad Z (cRt w j)) else none) = fun _ => none := none_lt0
  have e2 : (fun j : Nat => if j < 0 then some (ad Z (cTr w j)) else none) = fun _ => none := none_lt0
  have h : pw Z w 0 0 0 5 = [(ad Z (1 + 85 * w + 0), .inr (1, [.ref (ad Z (cPl w)), .ref (ad Z (cBs w)), .int 0, .ref (ad Z (cRs w)), .int 0, .ref (ad Z (cTs w)), .int 0, .int 0, .int 2, .int 0])), (ad Z (1 + 85 * w + 1), .inl (Z.2.2.1, 6, .inl (fun j => if j < 6 then 2 else 0))), (ad Z (1 + 85 * w + 2), .inl (Z.2.2.2.1, 16, .inr (.inr (.inr (.inr (fun j => if j < 0 then some (ad Z (cBk w j)) else none)))))), (ad Z (1 + 85 * w + 3), .inl (Z.2.2.2.2.1, 16, .inr (.inr (.inr (.inr (fun j => if j < 0 then some (ad Z (cRt w j)) else none)))))), (ad Z (1 + 85 * w + 4), .inl (Z.2.2.2.2.2, 8, .inr (.inr (.inr (.inr (fun j => if j < 0 then some (ad Z (cTr w j)) else none))))))] := rfl
  rw [h, show 1 + 85 * w + 0 = cLn w by unfold cLn; omega, show 1 + 85 * w + 1 = cPl w by unfold cPl; omega, show 1 + 85 * w + 2 = cBs w by unfold cBs; omega, show 1 + 85 * w + 3 = cRs w by unfold cRs; omega, show 1 + 85 * w + 4 = cTs w by unfold cTs; omega, e0, e1, e2]
theorem tr_ad {Z : Gm} {w i : Nat} (hq : ∀ m, m < 85 → ad Z (1 + 85 * w + m) = ad Z (cLn w) + m) (hi : i < 8) (k : Nat) (hk : k < 4) : ad Z (1 + 85 * w + (53 + 4 * i + k)) = ad Z (cTr w i) + k := by
  rw [hq _ (by omega), show ad Z (cTr w i) = ad Z (1 + 85 * w + (53 + 4 * i)) from congrArg (ad Z) (by unfold cTr; omega), hq _ (by omega)]
  omega
set_option maxHeartbeats 4000000 in
set_option maxRecDepth 20000 in
theorem li_121 (l : Launch) {Z : Gm} {w : Nat} (hq : ∀ m, m < 85 → ad Z (1 + 85 * w + m) = ad Z (cLn w) + m) {p : Program} {e : Env} {s : State} {m : MethodId} {args : Array Value} {below : List Frame} {meth : Method} {c : Code} (E : EE Z p s m args c cX1_init RX1) (hX : Ext s) (hr : meth.sig.returnType = none) (hlk : meth.locks = false) (hml : c.maxLocals = 2) (hsz : s.heap.size = ad Z (cLn w) + 1) : ∀ (n i : Nat), 8 - i < n → i ≤ 8 → ∀ (H : Heap) (locs : List Loc), H.size = ad Z (cLn w) + (53 + 4 * i) → va_P (gD Z) vwCl (pw Z w 16 16 i (53 + 4 * i)) H → va_S (fun z => ad Z (cLn w) ≤ z) s.heap H locs → ∀ (ls : Array Slot), lv_has ls 2 [(1, .int (nI i)), (0, .ref (ad Z (cLn w)))] → W p l e ({ frames := 2, cells := 84, slots := 590, locals := 32 }) s m args below meth c H locs (52 + 4 * i) (270 + 40 * i) (MQ below (QI Z (lwl Z w) (ad Z (cLn w) + 85) (ad Z (cLn w))) args s 84 590 (fun x => ad Z (cLn w) ≤ x)) (F0 m 121 ls []) := by
  intro n
  induction n with
  | zero => intro i hm; exact absurd hm (by omega)
  | succ n ih =>
    intro i hm hi H locs hz hP hS ls hl
    refine lv_iload_n E.1 E.2.1 dX1_init_121 rfl (lv_at hl 0 rfl) ?_
    refine lv_bipush (v := 8) E.1 E.2.1 dX1_init_122 (by decide) ?_
    refine lv_icmp_ge (tgt := 146) E.1 E.2.1 dX1_init_124 (by decide) (fun hc => ?_) (fun hc => ?_)
    · have hd : 8 ≤ i := (nI_leI (a := 8) (by omega) (by omega)).mp hc
      have hi8 : i = 8 := by omega
      subst hi8
      exact W.vret E.1 E.2.1 hr (fun t ht _ => ⟨rfl, by rw [ht]; exact hz, by rw [ht]; exact pw_full hP, fun x hx => by rw [ht]; exact hS.2.1 x (by omega) (Nat.not_le.mpr hx)⟩) hS.2.2 dX1_init_146 (hlocks := hlk)
    · have hd : i < 8 := Nat.not_le.mp fun h => hc ((nI_leI (a := 8) (by omega) (by omega)).mpr h)
      have hqk : ad Z (cTr w i) = ad Z (cLn w) + (53 + 4 * i) := by rw [← hq (53 + 4 * i) (by omega)]; exact congrArg (ad Z) (by unfold cTr; omega)
      refine lv_aload_n E.1 E.2.1 dX1_init_127 rfl (lv_at hl 1 rfl) ?_
      refine va_get (v := .ref (ad Z (cTs w))) E.1 E.2.1 (Ts := gG) E.2.2.2.1 gC1 E.2.2.1 E.2.2.2.2 hP 0 (a := ad Z (cLn w)) (pw_at (by omega)) rfl 5 (by decide) (E.2.2.2.1 _ gw_25) (fun _ h => h) rfl dX1_init_128 ?_
      refine lv_iload_n E.1 E.2.1 dX1_init_131 rfl (lv_at hl 0 rfl) ?_
      refine n_obj E hP hS (ci := 3) (T := TX3) (N := 16) rfl gC3 tyX3 tyX3_ok gw_24 gw_31 gw_32 (fs := [.int 0, .int 0, .int 0, .null, .null, .int 0, .int 0, .int 0, .int 0, .int 0, .int 0, .int 0, .int 0, .int 0, .int 0, .null]) (fun j hj => by rcases (show j = 0 ∨ j = 1 ∨ j = 2 ∨ j = 3 ∨ j = 4 ∨ j = 5 ∨ j = 6 ∨ j = 7 ∨ j = 8 ∨ j = 9 ∨ j = 10 ∨ j = 11 ∨ j = 12 ∨ j = 13 ∨ j = 14 ∨ j = 15 by omega) with rfl | rfl | rfl | rfl | rfl | rfl | rfl | rfl | rfl | rfl | rfl | rfl | rfl | rfl | rfl | rfl <;> rfl) (by show _ + 1 ≤ 84; omega) (by show _ + 16 ≤ 590; omega) dX1_init_132 (h := ad Z (cTr w i)) (hz.trans hqk.symm) (fun H hz hP hS => ?_)
      refine lv_dup E.1 E.2.1 dX1_init_135 rfl ?_
      refine go_I (run_IN (rest := [.ref (ad Z (cTr w i)), .int (nI i), .ref (ad Z (cTs w))]) E hX hml hl.1 (c_X3_init l Z (ad Z (cTr w i))) k_X3_init ⟨rfl, rfl, Nat.le_of_ble_eq_true rfl, Nat.le_of_ble_eq_true rfl⟩ hX.2.2.1 hz (va_P_last hP) rfl (Nat.le_of_ble_eq_true rfl) ⟨by show _ + 3 ≤ 84; omega, by show _ + 24 ≤ 590; omega⟩ dX1_init_136) hS (fun x h => Nat.le_trans (by rw [hqk]; omega) h) (by rw [hz]; omega) (fun H1 locs hz1 hP1 hk hS => ?_)
      have hP := va_P_comb (va_P_init hP) (fun k p h => by rw [hqk]; exact pw_lt hq (by omega) k p h) hk hP1
      have hP : va_P (gD Z) vwCl (pw Z w 16 16 i (53 + 4 * i + 4)) H1 := by rw [show 53 + 4 * i + 4 = (53 + 4 * i + 3) + 1 from rfl, pw_s, show 53 + 4 * i + 3 = (53 + 4 * i + 2) + 1 from rfl, pw_s, show 53 + 4 * i + 2 = (53 + 4 * i + 1) + 1 from rfl, pw_s, pw_s, pc_tr hd, pc_ta (i := 1) hd (by omega), show 53 + 4 * i + 1 + 1 = 53 + 4 * i + 2 from rfl, pc_ta (i := 2) hd (by omega), show 53 + 4 * i + 2 + 1 = 53 + 4 * i + 3 from rfl, pc_ta (i := 3) hd (by omega), List.append_assoc, List.append_assoc, List.append_assoc, tr_ad hq hd 1 (by omega), tr_ad hq hd 2 (by omega), tr_ad hq hd 3 (by omega), show ad Z (1 + 85 * w + (53 + 4 * i)) = ad Z (cTr w i) from congrArg (ad Z) (by unfold cTr; omega), show ad Z (cSt w i) = ad Z (cTr w i) + 1 by rw [← tr_ad hq hd 1 (by omega)]; exact congrArg (ad Z) (by unfold cSt; omega), show ad Z (cTm w i) = ad Z (cTr w i) + 2 by rw [← tr_ad hq hd 2 (by omega)]; exact congrArg (ad Z) (by unfold cTm; omega), show ad Z (cWf w i) = ad Z (cTr w i) + 3 by rw [← tr_ad hq hd 3 (by omega)]; exact congrArg (ad Z) (by unfold cWf; omega)]; exact hP
      refine z_astq E hz1 hP (pw_D hq (by omega)) hS 4 3 (53 + 4 * i) 3 (a := ad Z (cTs w)) (cA := Z.2.2.2.2.2) (n := 8) (f := fun j => if j < i then some (ad Z (cTr w j)) else none) (pw_x (m := 4) (by omega) (by unfold cTs; omega) rfl) rfl (v := ad Z (cTr w i)) (pw_x (m := 53 + 4 * i) (by omega) (by unfold cTr; omega) (pc_tr hd)) (r := (RX3, TX3, 16)) rfl (k := i) (nI_clamp (by omega)) (vp_in_nI (by omega) (by omega)) dX1_init_139 (fun H locs hz hP _ hS => ?_)
      rw [up_some (g := fun j => ad Z (cTr w j))] at hP
      have hP : va_P (gD Z) vwCl (pw Z w 16 16 (i + 1) (53 + 4 * i + 4)) H := by rw [← pw_set (i := 4) (c := cTs w) (nb := 16) (nr := 16) (nt := i) (by omega) (by unfold cTs; omega) rfl (fun m hm => by unfold pcell; by_cases h2 : m = 2 <;> by_cases h3 : m = 3 <;> simp [h2, h3, hm])]; exact hP
      refine lv_iinc (v := nI (i + 1)) (lv' := [(1, .int (nI (i + 1))), (0, .ref (ad Z (cLn w)))]) E.1 E.2.1 dX1_init_140 hl (k := 0) rfl (nI_1 _) (by decide) rfl (fun ls hl => ?_)
      refine lv_goto (tgt := 121) E.1 E.2.1 dX1_init_143 (by decide) ?_
      refine W.cs (show 52 + 4 * i + 1 + 3 = 52 + 4 * (i + 1) by omega) (show 270 + 40 * i + 16 + 24 = 270 + 40 * (i + 1) by omega) ?_
      exact ih (i + 1) (by omega) (by omega) H locs (by rw [hz, hqk]; omega) (by rw [show 53 + 4 * (i + 1) = 53 + 4 * i + 4 by omega]; exact hP) hS ls hl
set_option maxHeartbeats 4000000 in
set_option maxRecDepth 20000 in
theorem li_94 (l : Launch) {Z : Gm} {w : Nat} (hq : ∀ m, m < 85 → ad Z (1 + 85 * w + m) = ad Z (cLn w) + m) {p : Program} {e : Env} {s : State} {m : MethodId} {args : Array Value} {below : List Frame} {meth : Method} {c : Code} (E : EE Z p s m args c cX1_init RX1) (hX : Ext s) (hr : meth.sig.returnType = none) (hlk : meth.locks = false) (hml : c.maxLocals = 2) (hsz : s.heap.size = ad Z (cLn w) + 1) : ∀ (n i : Nat), 16 - i < n → i ≤ 16 → ∀ (H : Heap) (locs : List Loc), H.size = ad Z (cLn w) + (21 + 2 * i) → va_P (gD Z) vwCl (pw Z w 16 i 0 (21 + 2 * i)) H → va_S (fun z => ad Z (cLn w) ≤ z) s.heap H locs → ∀ (ls : Array Slot), lv_has ls 2 [(1, .int (nI i)), (0, .ref (ad Z (cLn w)))] → W p l e ({ frames := 2, cells := 84, slots := 590, locals := 32 }) s m args below meth c H locs (20 + 2 * i) (110 + 10 * i) (MQ below (QI Z (lwl Z w) (ad Z (cLn w) + 85) (ad Z (cLn w))) args s 84 590 (fun x => ad Z (cLn w) ≤ x)) (F0 m 94 ls []) := by
  intro n
  induction n with
  | zero => intro i hm; exact absurd hm (by omega)
  | succ n ih =>
    intro i hm hi H locs hz hP hS ls hl
    refine lv_iload_n E.1 E.2.1 dX1_init_94 rfl (lv_at hl 0 rfl) ?_
    refine lv_bipush (v := 16) E.1 E.2.1 dX1_init_95 (by decide) ?_
    refine lv_icmp_ge (tgt := 119) E.1 E.2.1 dX1_init_97 (by decide) (fun hc => ?_) (fun hc => ?_)
    · have hd : 16 ≤ i := (nI_leI (a := 16) (by omega) (by omega)).mp hc
      have hi16 : i = 16 := by omega
      subst hi16
      refine lv_iconst (v := 0) E.1 E.2.1 dX1_init_119 (by decide) ?_
      refine lv_istore_n (lv' := [(1, .int 0), (0, .ref (ad Z (cLn w)))]) E.1 E.2.1 dX1_init_120 rfl hl (by decide) rfl (fun ls hl => ?_)
      exact li_121 l hq E hX hr hlk hml hsz 9 0 (by omega) (by omega) H locs hz hP hS ls hl
    · have hd : i < 16 := Nat.not_le.mp fun h => hc ((nI_leI (a := 16) (by omega) (by omega)).mpr h)
      have hqk : ad Z (cRt w i) = ad Z (cLn w) + (21 + 2 * i) := by rw [← hq (21 + 2 * i) (by omega)]; exact congrArg (ad Z) (by unfold cRt; omega)
      refine lv_aload_n E.1 E.2.1 dX1_init_100 rfl (lv_at hl 1 rfl) ?_
      refine va_get (v := .ref (ad Z (cRs w))) E.1 E.2.1 (Ts := gG) E.2.2.2.1 gC1 E.2.2.1 E.2.2.2.2 hP 0 (a := ad Z (cLn w)) (pw_at (by omega)) rfl 3 (by decide) (E.2.2.2.1 _ gw_23) (fun _ h => h) rfl dX1_init_101 ?_
      refine lv_iload_n E.1 E.2.1 dX1_init_104 rfl (lv_at hl 0 rfl) ?_
      refine n_obj E hP hS (ci := 2) (T := TX2) (N := 5) rfl gC2 tyX2 tyX2_ok gw_22 gw_29 gw_30 (fs := [.int 0, .int 0, .int 0, .int 0, .null]) (fun j hj => by rcases (show j = 0 ∨ j = 1 ∨ j = 2 ∨ j = 3 ∨ j = 4 by omega) with rfl | rfl | rfl | rfl | rfl <;> rfl) (by show _ + 1 ≤ 84; omega) (by show _ + 5 ≤ 590; omega) dX1_init_105 (h := ad Z (cRt w i)) (hz.trans hqk.symm) (fun H hz hP hS => ?_)
      refine lv_dup E.1 E.2.1 dX1_init_108 rfl ?_
      refine go_I (run_IN (rest := [.ref (ad Z (cRt w i)), .int (nI i), .ref (ad Z (cRs w))]) E hX hml hl.1 (c_X2_init l Z (ad Z (cRt w i))) k_X2_init ⟨rfl, rfl, Nat.le_of_ble_eq_true rfl, Nat.le_of_ble_eq_true rfl⟩ hX.2.1 hz (va_P_last hP) rfl (Nat.le_of_ble_eq_true rfl) ⟨by show _ + 1 ≤ 84; omega, by show _ + 5 ≤ 590; omega⟩ dX1_init_109) hS (fun x h => Nat.le_trans (by rw [hqk]; omega) h) (by rw [hz]; omega) (fun H1 locs hz1 hP1 hk hS => ?_)
      have hP := va_P_comb (va_P_init hP) (fun k p h => by rw [hqk]; exact pw_lt hq (by omega) k p h) hk hP1
      have hP : va_P (gD Z) vwCl (pw Z w 16 i 0 (21 + 2 * i + 2)) H1 := by rw [show 21 + 2 * i + 2 = (21 + 2 * i + 1) + 1 from rfl, pw_s, pw_s, pc_rt hd, show 21 + 2 * i + 1 = 22 + 2 * i by omega, pc_rb hd, List.append_assoc, show ad Z (cRb w i) = ad Z (cRt w i) + 1 by rw [hqk, show ad Z (cRb w i) = ad Z (1 + 85 * w + (22 + 2 * i)) from congrArg (ad Z) (by unfold cRb; omega), hq (22 + 2 * i) (by omega)]; omega, show ad Z (1 + 85 * w + (22 + 2 * i)) = ad Z (cRt w i) + 1 by rw [hqk, hq (22 + 2 * i) (by omega)]; omega, show ad Z (1 + 85 * w + (21 + 2 * i)) = ad Z (cRt w i) from congrArg (ad Z) (by unfold cRt; omega)]; exact hP
      refine z_astq E hz1 hP (pw_D hq (by omega)) hS 3 2 (21 + 2 * i) 2 (a := ad Z (cRs w)) (cA := Z.2.2.2.2.1) (n := 16) (f := fun j => if j < i then some (ad Z (cRt w j)) else none) (pw_x (m := 3) (by omega) (by unfold cRs; omega) rfl) rfl (v := ad Z (cRt w i)) (pw_x (m := 21 + 2 * i) (by omega) (by unfold cRt; omega) (pc_rt hd)) (r := (RX2, TX2, 5)) rfl (k := i) (nI_clamp (by omega)) (vp_in_nI (by omega) (by omega)) dX1_init_112 (fun H locs hz hP _ hS => ?_)
      rw [up_some (g := fun j => ad Z (cRt w j))] at hP
      have hP : va_P (gD Z) vwCl (pw Z w 16 (i + 1) 0 (21 + 2 * i + 2)) H := by rw [← pw_set (i := 3) (c := cRs w) (nb := 16) (nr := i) (nt := 0) (by omega) (by unfold cRs; omega) rfl (fun m hm => by unfold pcell; by_cases h2 : m = 2 <;> simp [h2, hm])]; exact hP
      refine lv_iinc (v := nI (i + 1)) (lv' := [(1, .int (nI (i + 1))), (0, .ref (ad Z (cLn w)))]) E.1 E.2.1 dX1_init_113 hl (k := 0) rfl (nI_1 _) (by decide) rfl (fun ls hl => ?_)
      refine lv_goto (tgt := 94) E.1 E.2.1 dX1_init_116 (by decide) ?_
      refine W.cs (show 20 + 2 * i + 1 + 1 = 20 + 2 * (i + 1) by omega) (show 110 + 10 * i + 5 + 5 = 110 + 10 * (i + 1) by omega) ?_
      exact ih (i + 1) (by omega) (by omega) H locs (by rw [hz, hqk]; omega) (by rw [show 21 + 2 * (i + 1) = 21 + 2 * i + 2 by omega]; exact hP) hS ls hl
set_option maxHeartbeats 4000000 in
set_option maxRecDepth 20000 in
theorem li_67 (l : Launch) {Z : Gm} {w : Nat} (hq : ∀ m, m < 85 → ad Z (1 + 85 * w + m) = ad Z (cLn w) + m) {p : Program} {e : Env} {s : State} {m : MethodId} {args : Array Value} {below : List Frame} {meth : Method} {c : Code} (E : EE Z p s m args c cX1_init RX1) (hX : Ext s) (hr : meth.sig.returnType = none) (hlk : meth.locks = false) (hml : c.maxLocals = 2) (hsz : s.heap.size = ad Z (cLn w) + 1) : ∀ (n i : Nat), 16 - i < n → i ≤ 16 → ∀ (H : Heap) (locs : List Loc), H.size = ad Z (cLn w) + (5 + i) → va_P (gD Z) vwCl (pw Z w i 0 0 (5 + i)) H → va_S (fun z => ad Z (cLn w) ≤ z) s.heap H locs → ∀ (ls : Array Slot), lv_has ls 2 [(1, .int (nI i)), (0, .ref (ad Z (cLn w)))] → W p l e ({ frames := 2, cells := 84, slots := 590, locals := 32 }) s m args below meth c H locs (4 + i) (46 + 4 * i) (MQ below (QI Z (lwl Z w) (ad Z (cLn w) + 85) (ad Z (cLn w))) args s 84 590 (fun x => ad Z (cLn w) ≤ x)) (F0 m 67 ls []) := by
  intro n
  induction n with
  | zero => intro i hm; exact absurd hm (by omega)
  | succ n ih =>
    intro i hm hi H locs hz hP hS ls hl
    refine lv_iload_n E.1 E.2.1 dX1_init_67 rfl (lv_at hl 0 rfl) ?_
    refine lv_bipush (v := 16) E.1 E.2.1 dX1_init_68 (by decide) ?_
    refine lv_icmp_ge (tgt := 92) E.1 E.2.1 dX1_init_70 (by decide) (fun hc => ?_) (fun hc => ?_)
    · have hd : 16 ≤ i := (nI_leI (a := 16) (by omega) (by omega)).mp hc
      have hi16 : i = 16 := by omega
      subst hi16
      refine lv_iconst (v := 0) E.1 E.2.1 dX1_init_92 (by decide) ?_
      refine lv_istore_n (lv' := [(1, .int 0), (0, .ref (ad Z (cLn w)))]) E.1 E.2.1 dX1_init_93 rfl hl (by decide) rfl (fun ls hl => ?_)
      exact li_94 l hq E hX hr hlk hml hsz 17 0 (by omega) (by omega) H locs hz hP hS ls hl
    · have hd : i < 16 := Nat.not_le.mp fun h => hc ((nI_leI (a := 16) (by omega) (by omega)).mpr h)
      have hqk : ad Z (cBk w i) = ad Z (cLn w) + (5 + i) := by rw [← hq (5 + i) (by omega)]; exact congrArg (ad Z) (by unfold cBk; omega)
      refine lv_aload_n E.1 E.2.1 dX1_init_73 rfl (lv_at hl 1 rfl) ?_
      refine va_get (v := .ref (ad Z (cBs w))) E.1 E.2.1 (Ts := gG) E.2.2.2.1 gC1 E.2.2.1 E.2.2.2.2 hP 0 (a := ad Z (cLn w)) (pw_at (by omega)) rfl 1 (by decide) (E.2.2.2.1 _ gw_21) (fun _ h => h) rfl dX1_init_74 ?_
      refine lv_iload_n E.1 E.2.1 dX1_init_77 rfl (lv_at hl 0 rfl) ?_
      refine n_obj E hP hS (ci := 0) (T := TX0) (N := 4) rfl gC0 tyX0 tyX0_ok gw_20 gw_27 gw_28 (fs := [.int 0, .int 0, .int 0, .int 0]) (fun j hj => by rcases (show j = 0 ∨ j = 1 ∨ j = 2 ∨ j = 3 by omega) with rfl | rfl | rfl | rfl <;> rfl) (by show _ + 1 ≤ 84; omega) (by show _ + 4 ≤ 590; omega) dX1_init_78 (h := ad Z (cBk w i)) (hz.trans hqk.symm) (fun H hz hP hS => ?_)
      refine lv_dup E.1 E.2.1 dX1_init_81 rfl ?_
      refine go_I (run_IN (rest := [.ref (ad Z (cBk w i)), .int (nI i), .ref (ad Z (cBs w))]) E hX hml hl.1 (c_X0_init l Z (ad Z (cBk w i))) k_X0_init ⟨rfl, rfl, Nat.le_of_ble_eq_true rfl, Nat.le_of_ble_eq_true rfl⟩ hX.1 hz (va_P_last hP) rfl (Nat.le_of_ble_eq_true rfl) ⟨by show _ + 0 ≤ 84; omega, by show _ + 0 ≤ 590; omega⟩ dX1_init_82) hS (fun x h => Nat.le_trans (by rw [hqk]; omega) h) (by rw [hz]; omega) (fun H1 locs hz1 hP1 hk hS => ?_)
      have hP := va_P_comb (va_P_init hP) (fun k p h => by rw [hqk]; exact pw_lt hq (by omega) k p h) hk hP1
      have hP : va_P (gD Z) vwCl (pw Z w i 0 0 (5 + i + 1)) H1 := by rw [pw_s, pc_bk hd, show ad Z (1 + 85 * w + (5 + i)) = ad Z (cBk w i) from congrArg (ad Z) (by unfold cBk; omega)]; exact hP
      refine z_astq E hz1 hP (pw_D hq (by omega)) hS 2 1 (5 + i) 0 (a := ad Z (cBs w)) (cA := Z.2.2.2.1) (n := 16) (f := fun j => if j < i then some (ad Z (cBk w j)) else none) (pw_x (m := 2) (by omega) (by unfold cBs; omega) rfl) rfl (v := ad Z (cBk w i)) (pw_x (m := 5 + i) (by omega) (by unfold cBk; omega) (pc_bk hd)) (r := (RX0, TX0, 4)) rfl (k := i) (nI_clamp (by omega)) (vp_in_nI (by omega) (by omega)) dX1_init_85 (fun H locs hz hP _ hS => ?_)
      rw [up_some (g := fun j => ad Z (cBk w j))] at hP
      have hP : va_P (gD Z) vwCl (pw Z w (i + 1) 0 0 (5 + i + 1)) H := by rw [← pw_set (i := 2) (c := cBs w) (nb := i) (nr := 0) (nt := 0) (by omega) (by unfold cBs; omega) rfl (fun m hm => by unfold pcell; rw [if_neg hm, if_neg hm])]; exact hP
      refine lv_iinc (v := nI (i + 1)) (lv' := [(1, .int (nI (i + 1))), (0, .ref (ad Z (cLn w)))]) E.1 E.2.1 dX1_init_86 hl (k := 0) rfl (nI_1 _) (by decide) rfl (fun ls hl => ?_)
      refine lv_goto (tgt := 67) E.1 E.2.1 dX1_init_89 (by decide) ?_
      refine W.cs (show 4 + i + 1 + 0 = 4 + (i + 1) by omega) (show 46 + 4 * i + 4 + 0 = 46 + 4 * (i + 1) by omega) ?_
      exact ih (i + 1) (by omega) (by omega) H locs (by rw [hz, hqk]; omega) (by rw [show 5 + (i + 1) = 5 + i + 1 by omega]; exact hP) hS ls hl
set_option maxHeartbeats 4000000 in
set_option maxRecDepth 20000 in
theorem li_46 (l : Launch) {Z : Gm} {w : Nat} (hq : ∀ m, m < 85 → ad Z (1 + 85 * w + m) = ad Z (cLn w) + m) {p : Program} {e : Env} {s : State} {m : MethodId} {args : Array Value} {below : List Frame} {meth : Method} {c : Code} (E : EE Z p s m args c cX1_init RX1) (hX : Ext s) (hr : meth.sig.returnType = none) (hlk : meth.locks = false) (hml : c.maxLocals = 2) (hsz : s.heap.size = ad Z (cLn w) + 1) : ∀ (n i : Nat), 6 - i < n → i ≤ 6 → ∀ (H : Heap) (locs : List Loc), H.size = ad Z (cLn w) + (5) → va_P (gD Z) vwCl ([(ad Z (cLn w), .inr (1, [.ref (ad Z (cPl w)), .ref (ad Z (cBs w)), .int 0, .ref (ad Z (cRs w)), .int 0, .ref (ad Z (cTs w)), .int 0, .int 0, .int 2, .int 0])), (ad Z (cPl w), .inl (Z.2.2.1, 6, .inl (fun j => if j < i then 2 else 0))), (ad Z (cBs w), .inl (Z.2.2.2.1, 16, .inr (.inr (.inr (.inr (fun _ => none)))))), (ad Z (cRs w), .inl (Z.2.2.2.2.1, 16, .inr (.inr (.inr (.inr (fun _ => none)))))), (ad Z (cTs w), .inl (Z.2.2.2.2.2, 8, .inr (.inr (.inr (.inr (fun _ => none))))))]) H → va_S (fun z => ad Z (cLn w) ≤ z) s.heap H locs → ∀ (ls : Array Slot), lv_has ls 2 [(1, .int (nI i)), (0, .ref (ad Z (cLn w)))] → W p l e ({ frames := 2, cells := 84, slots := 590, locals := 32 }) s m args below meth c H locs (4) (46) (MQ below (QI Z (lwl Z w) (ad Z (cLn w) + 85) (ad Z (cLn w))) args s 84 590 (fun x => ad Z (cLn w) ≤ x)) (F0 m 46 ls []) := by
  intro n
  induction n with
  | zero => intro i hm; exact absurd hm (by omega)
  | succ n ih =>
    intro i hm hi H locs hz hP hS ls hl
    refine lv_iload_n E.1 E.2.1 dX1_init_46 rfl (lv_at hl 0 rfl) ?_
    refine lv_bipush (v := 6) E.1 E.2.1 dX1_init_47 (by decide) ?_
    refine lv_icmp_ge (tgt := 65) E.1 E.2.1 dX1_init_49 (by decide) (fun hc => ?_) (fun hc => ?_)
    · have hd : 6 ≤ i := (nI_leI (a := 6) (by omega) (by omega)).mp hc
      have hi6 : i = 6 := by omega
      subst hi6
      refine lv_iconst (v := 0) E.1 E.2.1 dX1_init_65 (by decide) ?_
      refine lv_istore_n (lv' := [(1, .int 0), (0, .ref (ad Z (cLn w)))]) E.1 E.2.1 dX1_init_66 rfl hl (by decide) rfl (fun ls hl => ?_)
      have hP : va_P (gD Z) vwCl (pw Z w 0 0 0 5) H := by rw [pw_5]; exact hP
      exact li_67 l hq E hX hr hlk hml hsz 17 0 (by omega) (by omega) H locs hz hP hS ls hl
    · have hd : i < 6 := Nat.not_le.mp fun h => hc ((nI_leI (a := 6) (by omega) (by omega)).mpr h)
      have hq1 : ad Z (cPl w) = ad Z (cLn w) + 1 := by rw [← hq 1 (by decide)]; exact congrArg (ad Z) (by unfold cPl; omega)
      have hq2 : ad Z (cBs w) = ad Z (cLn w) + 2 := by rw [← hq 2 (by decide)]; exact congrArg (ad Z) (by unfold cBs; omega)
      have hq3 : ad Z (cRs w) = ad Z (cLn w) + 3 := by rw [← hq 3 (by decide)]; exact congrArg (ad Z) (by unfold cRs; omega)
      have hq4 : ad Z (cTs w) = ad Z (cLn w) + 4 := by rw [← hq 4 (by decide)]; exact congrArg (ad Z) (by unfold cTs; omega)
      refine lv_aload_n E.1 E.2.1 dX1_init_52 rfl (lv_at hl 1 rfl) ?_
      refine va_get (v := .ref (ad Z (cPl w))) E.1 E.2.1 (Ts := gG) E.2.2.2.1 gC1 E.2.2.1 E.2.2.2.2 hP 0 rfl rfl 0 (by decide) (E.2.2.2.1 _ gw_19) (fun _ h => h) rfl dX1_init_53 ?_
      refine lv_iload_n E.1 E.2.1 dX1_init_56 rfl (lv_at hl 0 rfl) ?_
      refine lv_iconst (v := 2) E.1 E.2.1 dX1_init_57 (by decide) ?_
      have hD : va_D (fun z => ad Z (cLn w) ≤ z) [(ad Z (cLn w), .inr (1, [.ref (ad Z (cPl w)), .ref (ad Z (cBs w)), .int 0, .ref (ad Z (cRs w)), .int 0, .ref (ad Z (cTs w)), .int 0, .int 0, .int 2, .int 0])), (ad Z (cPl w), .inl (Z.2.2.1, 6, .inl (fun j => if j < i then 2 else 0))), (ad Z (cBs w), .inl (Z.2.2.2.1, 16, .inr (.inr (.inr (.inr (fun _ => none)))))), (ad Z (cRs w), .inl (Z.2.2.2.2.1, 16, .inr (.inr (.inr (.inr (fun _ => none)))))), (ad Z (cTs w), .inl (Z.2.2.2.2.2, 8, .inr (.inr (.inr (.inr (fun _ => none))))))] := D_seq (ad Z (cLn w)) _ (fun k p h => by match k, h with | 0, h => cases h; exact rfl | 1, h => cases h; exact hq1 | 2, h => cases h; exact hq2 | 3, h => cases h; exact hq3 | 4, h => cases h; exact hq4 | k + 5, h => cases h)
      refine z_iast E hz hP hD hS 1 rfl (k := i) (nI_clamp (by omega)) (vp_in_nI (by omega) (by omega)) dX1_init_58 (fun H locs hz hP _ hS => ?_)
      have hP : va_P (gD Z) vwCl [(ad Z (cLn w), .inr (1, [.ref (ad Z (cPl w)), .ref (ad Z (cBs w)), .int 0, .ref (ad Z (cRs w)), .int 0, .ref (ad Z (cTs w)), .int 0, .int 0, .int 2, .int 0])), (ad Z (cPl w), .inl (Z.2.2.1, 6, .inl (fun j => if j < i + 1 then 2 else 0))), (ad Z (cBs w), .inl (Z.2.2.2.1, 16, .inr (.inr (.inr (.inr (fun _ => none)))))), (ad Z (cRs w), .inl (Z.2.2.2.2.1, 16, .inr (.inr (.inr (.inr (fun _ => none)))))), (ad Z (cTs w), .inl (Z.2.2.2.2.2, 8, .inr (.inr (.inr (.inr (fun _ => none))))))] H := by rw [← upd_two]; exact hP
      refine lv_iinc (v := nI (i + 1)) (lv' := [(1, .int (nI (i + 1))), (0, .ref (ad Z (cLn w)))]) E.1 E.2.1 dX1_init_59 hl (k := 0) rfl (nI_1 _) (by decide) rfl (fun ls hl => ?_)
      refine lv_goto (tgt := 46) E.1 E.2.1 dX1_init_62 (by decide) ?_
      exact ih (i + 1) (by omega) (by omega) H locs hz hP hS ls hl
set_option maxHeartbeats 4000000 in
set_option maxRecDepth 20000 in
theorem c_X1_init (l : Launch) (Z : Gm) (w : Nat) (hq : ∀ m, m < 85 → ad Z (1 + 85 * w + m) = ad Z (cLn w) + m) : Met l yX1_init (.code yX1_init cX1_init 2 none :: gG) ({ frames := 2, cells := 84, slots := 590, locals := 32 }) (PI Z [(ad Z (cLn w), .inr (1, [.null, .null, .int 0, .null, .int 0, .null, .int 0, .int 0, .int 0, .int 0]))] (ad Z (cLn w) + 1) [.ref (ad Z (cLn w))]) (QI Z (lwl Z w) (ad Z (cLn w) + 85) (ad Z (cLn w))) 84 590 (fun x => ad Z (cLn w) ≤ x) := by
  refine met_ofI (by decide +kernel) (Nat.le_of_ble_eq_true rfl) rfl ?_
  intro p e s m args below meth c ls E hX hin hr hlk hml hsz hP hl
  have E : EE Z p s m args c cX1_init RX1 := E
  have hl : lv_has ls 2 [(0, .ref (ad Z (cLn w)))] := hl
  have hS : va_S (fun z => ad Z (cLn w) ≤ z) s.heap s.heap [] := va_S.rf
  have hz : s.heap.size = ad Z (cLn w) + 1 := hsz
  have hq1 : ad Z (cPl w) = ad Z (cLn w) + 1 := by rw [← hq 1 (by decide)]; exact congrArg (ad Z) (by unfold cPl; omega)
  have hq2 : ad Z (cBs w) = ad Z (cLn w) + 2 := by rw [← hq 2 (by decide)]; exact congrArg (ad Z) (by unfold cBs; omega)
  have hq3 : ad Z (cRs w) = ad Z (cLn w) + 3 := by rw [← hq 3 (by decide)]; exact congrArg (ad Z) (by unfold cRs; omega)
  have hq4 : ad Z (cTs w) = ad Z (cLn w) + 4 := by rw [← hq 4 (by decide)]; exact congrArg (ad Z) (by unfold cTs; omega)
  refine lv_aload_n E.1 E.2.1 dX1_init_0 rfl (lv_at hl 0 rfl) ?_
  refine o_init E hml hl.1 gw_18 (Nat.le_of_ble_eq_true rfl) (Nat.le_of_ble_eq_true rfl) dX1_init_1 ?_
  refine lv_aload_n E.1 E.2.1 dX1_init_4 rfl (lv_at hl 0 rfl) ?_
  refine lv_bipush (v := 6) E.1 E.2.1 dX1_init_5 (by decide) ?_
  refine n_int (n := 6) E hP hS gw_3 (by decide) rfl (by decide) (Nat.le_of_ble_eq_true rfl) (Nat.le_of_ble_eq_true rfl) dX1_init_7 (h := ad Z (cPl w)) (hz.trans hq1.symm) (fun H hz hP hS => ?_)
  have hP : va_P (gD Z) vwCl [(ad Z (cLn w), .inr (1, [.null, .null, .int 0, .null, .int 0, .null, .int 0, .int 0, .int 0, .int 0])), (ad Z (cPl w), .inl (Z.2.2.1, 6, .inl (fun _ => 0)))] H := hP
  have hz : H.size = ad Z (cLn w) + 2 := by rw [hz, hq1]
  have hD : va_D (fun z => ad Z (cLn w) ≤ z) [(ad Z (cLn w), .inr (1, [.null, .null, .int 0, .null, .int 0, .null, .int 0, .int 0, .int 0, .int 0])), (ad Z (cPl w), .inl (Z.2.2.1, 6, .inl (fun _ => 0)))] := D_seq (ad Z (cLn w)) _ (fun k p h => by match k, h with | 0, h => cases h; exact rfl | 1, h => cases h; exact hq1 | k + 2, h => cases h)
  refine z_put E gC1 tyX1 tyX1_ok nmX1 hz hP hD hS 0 rfl rfl 0 (by decide) gw_19 rfl (fun _ => ⟨hin, rfl⟩) (ty := .array .int) (v := .ref (ad Z (cPl w))) (by decide +kernel) rfl rfl (Nat.le_of_ble_eq_true rfl) dX1_init_9 (fun H locs hz hP _ hS => ?_)
  have hP : va_P (gD Z) vwCl [(ad Z (cLn w), .inr (1, [.ref (ad Z (cPl w)), .null, .int 0, .null, .int 0, .null, .int 0, .int 0, .int 0, .int 0])), (ad Z (cPl w), .inl (Z.2.2.1, 6, .inl (fun _ => 0)))] H := hP
  refine lv_aload_n E.1 E.2.1 dX1_init_12 rfl (lv_at hl 0 rfl) ?_
  refine lv_bipush (v := 16) E.1 E.2.1 dX1_init_13 (by decide) ?_
  refine n_ref (n := 16) (t0 := 1) E hX.2.2.2.1 hP hS gw_20 rfl (by decide) rfl (by decide) (Nat.le_of_ble_eq_true rfl) (Nat.le_of_ble_eq_true rfl) dX1_init_15 (h := ad Z (cBs w)) (hz.trans hq2.symm) (fun H hz hP hS => ?_)
  have hP : va_P (gD Z) vwCl [(ad Z (cLn w), .inr (1, [.ref (ad Z (cPl w)), .null, .int 0, .null, .int 0, .null, .int 0, .int 0, .int 0, .int 0])), (ad Z (cPl w), .inl (Z.2.2.1, 6, .inl (fun _ => 0))), (ad Z (cBs w), .inl (Z.2.2.2.1, 16, .inr (.inr (.inr (.inr (fun _ => none))))))] H := hP
  have hz : H.size = ad Z (cLn w) + 3 := by rw [hz, hq2]
  have hD : va_D (fun z => ad Z (cLn w) ≤ z) [(ad Z (cLn w), .inr (1, [.ref (ad Z (cPl w)), .null, .int 0, .null, .int 0, .null, .int 0, .int 0, .int 0, .int 0])), (ad Z (cPl w), .inl (Z.2.2.1, 6, .inl (fun _ => 0))), (ad Z (cBs w), .inl (Z.2.2.2.1, 16, .inr (.inr (.inr (.inr (fun _ => none))))))] := D_seq (ad Z (cLn w)) _ (fun k p h => by match k, h with | 0, h => cases h; exact rfl | 1, h => cases h; exact hq1 | 2, h => cases h; exact hq2 | k + 3, h => cases h)
  refine z_put E gC1 tyX1 tyX1_ok nmX1 hz hP hD hS 0 rfl rfl 1 (by decide) gw_21 rfl (fun _ => ⟨hin, rfl⟩) (ty := .array (.object "SemaphoreBay$Block")) (v := .ref (ad Z (cBs w))) (by decide +kernel) rfl rfl (Nat.le_of_ble_eq_true rfl) dX1_init_18 (fun H locs hz hP _ hS => ?_)
  have hP : va_P (gD Z) vwCl [(ad Z (cLn w), .inr (1, [.ref (ad Z (cPl w)), .ref (ad Z (cBs w)), .int 0, .null, .int 0, .null, .int 0, .int 0, .int 0, .int 0])), (ad Z (cPl w), .inl (Z.2.2.1, 6, .inl (fun _ => 0))), (ad Z (cBs w), .inl (Z.2.2.2.1, 16, .inr (.inr (.inr (.inr (fun _ => none))))))] H := hP
  refine lv_aload_n E.1 E.2.1 dX1_init_21 rfl (lv_at hl 0 rfl) ?_
  refine lv_bipush (v := 16) E.1 E.2.1 dX1_init_22 (by decide) ?_
  refine n_ref (n := 16) (t0 := 2) E hX.2.2.2.2.1 hP hS gw_22 rfl (by decide) rfl (by decide) (Nat.le_of_ble_eq_true rfl) (Nat.le_of_ble_eq_true rfl) dX1_init_24 (h := ad Z (cRs w)) (hz.trans hq3.symm) (fun H hz hP hS => ?_)
  have hP : va_P (gD Z) vwCl [(ad Z (cLn w), .inr (1, [.ref (ad Z (cPl w)), .ref (ad Z (cBs w)), .int 0, .null, .int 0, .null, .int 0, .int 0, .int 0, .int 0])), (ad Z (cPl w), .inl (Z.2.2.1, 6, .inl (fun _ => 0))), (ad Z (cBs w), .inl (Z.2.2.2.1, 16, .inr (.inr (.inr (.inr (fun _ => none)))))), (ad Z (cRs w), .inl (Z.2.2.2.2.1, 16, .inr (.inr (.inr (.inr (fun _ => none))))))] H := hP
  have hz : H.size = ad Z (cLn w) + 4 := by rw [hz, hq3]
  have hD : va_D (fun z => ad Z (cLn w) ≤ z) [(ad Z (cLn w), .inr (1, [.ref (ad Z (cPl w)), .ref (ad Z (cBs w)), .int 0, .null, .int 0, .null, .int 0, .int 0, .int 0, .int 0])), (ad Z (cPl w), .inl (Z.2.2.1, 6, .inl (fun _ => 0))), (ad Z (cBs w), .inl (Z.2.2.2.1, 16, .inr (.inr (.inr (.inr (fun _ => none)))))), (ad Z (cRs w), .inl (Z.2.2.2.2.1, 16, .inr (.inr (.inr (.inr (fun _ => none))))))] := D_seq (ad Z (cLn w)) _ (fun k p h => by match k, h with | 0, h => cases h; exact rfl | 1, h => cases h; exact hq1 | 2, h => cases h; exact hq2 | 3, h => cases h; exact hq3 | k + 4, h => cases h)
  refine z_put E gC1 tyX1 tyX1_ok nmX1 hz hP hD hS 0 rfl rfl 3 (by decide) gw_23 rfl (fun _ => ⟨hin, rfl⟩) (ty := .array (.object "SemaphoreBay$Route")) (v := .ref (ad Z (cRs w))) (by decide +kernel) rfl rfl (Nat.le_of_ble_eq_true rfl) dX1_init_27 (fun H locs hz hP _ hS => ?_)
  have hP : va_P (gD Z) vwCl [(ad Z (cLn w), .inr (1, [.ref (ad Z (cPl w)), .ref (ad Z (cBs w)), .int 0, .ref (ad Z (cRs w)), .int 0, .null, .int 0, .int 0, .int 0, .int 0])), (ad Z (cPl w), .inl (Z.2.2.1, 6, .inl (fun _ => 0))), (ad Z (cBs w), .inl (Z.2.2.2.1, 16, .inr (.inr (.inr (.inr (fun _ => none)))))), (ad Z (cRs w), .inl (Z.2.2.2.2.1, 16, .inr (.inr (.inr (.inr (fun _ => none))))))] H := hP
  refine lv_aload_n E.1 E.2.1 dX1_init_30 rfl (lv_at hl 0 rfl) ?_
  refine lv_bipush (v := 8) E.1 E.2.1 dX1_init_31 (by decide) ?_
  refine n_ref (n := 8) (t0 := 3) E hX.2.2.2.2.2 hP hS gw_24 rfl (by decide) rfl (by decide) (Nat.le_of_ble_eq_true rfl) (Nat.le_of_ble_eq_true rfl) dX1_init_33 (h := ad Z (cTs w)) (hz.trans hq4.symm) (fun H hz hP hS => ?_)
  have hP : va_P (gD Z) vwCl [(ad Z (cLn w), .inr (1, [.ref (ad Z (cPl w)), .ref (ad Z (cBs w)), .int 0, .ref (ad Z (cRs w)), .int 0, .null, .int 0, .int 0, .int 0, .int 0])), (ad Z (cPl w), .inl (Z.2.2.1, 6, .inl (fun _ => 0))), (ad Z (cBs w), .inl (Z.2.2.2.1, 16, .inr (.inr (.inr (.inr (fun _ => none)))))), (ad Z (cRs w), .inl (Z.2.2.2.2.1, 16, .inr (.inr (.inr (.inr (fun _ => none)))))), (ad Z (cTs w), .inl (Z.2.2.2.2.2, 8, .inr (.inr (.inr (.inr (fun _ => none))))))] H := hP
  have hz : H.size = ad Z (cLn w) + 5 := by rw [hz, hq4]
  have hD : va_D (fun z => ad Z (cLn w) ≤ z) [(ad Z (cLn w), .inr (1, [.ref (ad Z (cPl w)), .ref (ad Z (cBs w)), .int 0, .ref (ad Z (cRs w)), .int 0, .null, .int 0, .int 0, .int 0, .int 0])), (ad Z (cPl w), .inl (Z.2.2.1, 6, .inl (fun _ => 0))), (ad Z (cBs w), .inl (Z.2.2.2.1, 16, .inr (.inr (.inr (.inr (fun _ => none)))))), (ad Z (cRs w), .inl (Z.2.2.2.2.1, 16, .inr (.inr (.inr (.inr (fun _ => none)))))), (ad Z (cTs w), .inl (Z.2.2.2.2.2, 8, .inr (.inr (.inr (.inr (fun _ => none))))))] := D_seq (ad Z (cLn w)) _ (fun k p h => by match k, h with | 0, h => cases h; exact rfl | 1, h => cases h; exact hq1 | 2, h => cases h; exact hq2 | 3, h => cases h; exact hq3 | 4, h => cases h; exact hq4 | k + 5, h => cases h)
  refine z_put E gC1 tyX1 tyX1_ok nmX1 hz hP hD hS 0 rfl rfl 5 (by decide) gw_25 rfl (fun _ => ⟨hin, rfl⟩) (ty := .array (.object "SemaphoreBay$Train")) (v := .ref (ad Z (cTs w))) (by decide +kernel) rfl rfl (Nat.le_of_ble_eq_true rfl) dX1_init_36 (fun H locs hz hP _ hS => ?_)
  have hP : va_P (gD Z) vwCl [(ad Z (cLn w), .inr (1, [.ref (ad Z (cPl w)), .ref (ad Z (cBs w)), .int 0, .ref (ad Z (cRs w)), .int 0, .ref (ad Z (cTs w)), .int 0, .int 0, .int 0, .int 0])), (ad Z (cPl w), .inl (Z.2.2.1, 6, .inl (fun _ => 0))), (ad Z (cBs w), .inl (Z.2.2.2.1, 16, .inr (.inr (.inr (.inr (fun _ => none)))))), (ad Z (cRs w), .inl (Z.2.2.2.2.1, 16, .inr (.inr (.inr (.inr (fun _ => none)))))), (ad Z (cTs w), .inl (Z.2.2.2.2.2, 8, .inr (.inr (.inr (.inr (fun _ => none))))))] H := hP
  refine lv_aload_n E.1 E.2.1 dX1_init_39 rfl (lv_at hl 0 rfl) ?_
  refine lv_iconst (v := 2) E.1 E.2.1 dX1_init_40 (by decide) ?_
  have hD : va_D (fun z => ad Z (cLn w) ≤ z) [(ad Z (cLn w), .inr (1, [.ref (ad Z (cPl w)), .ref (ad Z (cBs w)), .int 0, .ref (ad Z (cRs w)), .int 0, .ref (ad Z (cTs w)), .int 0, .int 0, .int 0, .int 0])), (ad Z (cPl w), .inl (Z.2.2.1, 6, .inl (fun _ => 0))), (ad Z (cBs w), .inl (Z.2.2.2.1, 16, .inr (.inr (.inr (.inr (fun _ => none)))))), (ad Z (cRs w), .inl (Z.2.2.2.2.1, 16, .inr (.inr (.inr (.inr (fun _ => none)))))), (ad Z (cTs w), .inl (Z.2.2.2.2.2, 8, .inr (.inr (.inr (.inr (fun _ => none))))))] := D_seq (ad Z (cLn w)) _ (fun k p h => by match k, h with | 0, h => cases h; exact rfl | 1, h => cases h; exact hq1 | 2, h => cases h; exact hq2 | 3, h => cases h; exact hq3 | 4, h => cases h; exact hq4 | k + 5, h => cases h)
  refine z_put E gC1 tyX1 tyX1_ok nmX1 hz hP hD hS 0 rfl rfl 8 (by decide) gw_26 rfl (fun h => by cases h) (ty := .int) (v := .int 2) (by decide +kernel) rfl rfl (Nat.le_of_ble_eq_true rfl) dX1_init_41 (fun H locs hz hP _ hS => ?_)
  have hP : va_P (gD Z) vwCl [(ad Z (cLn w), .inr (1, [.ref (ad Z (cPl w)), .ref (ad Z (cBs w)), .int 0, .ref (ad Z (cRs w)), .int 0, .ref (ad Z (cTs w)), .int 0, .int 0, .int 2, .int 0])), (ad Z (cPl w), .inl (Z.2.2.1, 6, .inl (fun _ => 0))), (ad Z (cBs w), .inl (Z.2.2.2.1, 16, .inr (.inr (.inr (.inr (fun _ => none)))))), (ad Z (cRs w), .inl (Z.2.2.2.2.1, 16, .inr (.inr (.inr (.inr (fun _ => none)))))), (ad Z (cTs w), .inl (Z.2.2.2.2.2, 8, .inr (.inr (.inr (.inr (fun _ => none))))))] H := hP
  refine lv_iconst (v := 0) E.1 E.2.1 dX1_init_44 (by decide) ?_
  refine lv_istore_n (lv' := [(1, .int 0), (0, .ref (ad Z (cLn w)))]) E.1 E.2.1 dX1_init_45 rfl hl (by decide) rfl (fun ls hl => ?_)
  have hP : va_P (gD Z) vwCl [(ad Z (cLn w), .inr (1, [.ref (ad Z (cPl w)), .ref (ad Z (cBs w)), .int 0, .ref (ad Z (cRs w)), .int 0, .ref (ad Z (cTs w)), .int 0, .int 0, .int 2, .int 0])), (ad Z (cPl w), .inl (Z.2.2.1, 6, .inl (fun j => if j < 0 then 2 else 0))), (ad Z (cBs w), .inl (Z.2.2.2.1, 16, .inr (.inr (.inr (.inr (fun _ => none)))))), (ad Z (cRs w), .inl (Z.2.2.2.2.1, 16, .inr (.inr (.inr (.inr (fun _ => none)))))), (ad Z (cTs w), .inl (Z.2.2.2.2.2, 8, .inr (.inr (.inr (.inr (fun _ => none))))))] H := by rw [show (fun j : Nat => if j < 0 then (2 : Int32) else 0) = fun _ => 0 from funext fun j => if_neg (Nat.not_lt_zero j)]; exact hP
  exact li_46 l hq E hX hr hlk hml hsz 7 0 (by omega) (by omega) H locs hz hP hS ls hl
end
section
/-! The constructor of the bay. -/
theorem lwl_at {Z : Gm} {w m : Nat} (h : m < 85) : (lwl Z w)[m]? = some (ad Z (1 + 85 * w + m), lineCell Z w initS m) := by simp [lwl, h]
theorem lwl_len (Z : Gm) (w : Nat) : (lwl Z w).length = 85 := by simp [lwl]
def b1 (Z : Gm) (x : List Value) : va_W := (ad Z 0, .inr (4, x)) :: lwl Z 0
def b2 (Z : Gm) (x : List Value) : va_W := (ad Z 0, .inr (4, x)) :: (lwl Z 0 ++ lwl Z 1)
theorem l2_at {Z : Gm} {k : Nat} (h : k < 170) : (lwl Z 0 ++ lwl Z 1)[k]? = some (ad Z (1 + k), lineCell Z (k / 85) initS (k % 85)) := by
  by_cases h1 : k < 85
  · rw [List.getElem?_append_left (by rw [lwl_len]; exact h1), lwl_at h1, show k / 85 = 0 by omega, show k % 85 = k by omega, show 1 + 85 * 0 + k = 1 + k by omega]
  · rw [List.getElem?_append_right (by rw [lwl_len]; omega), lwl_len, lwl_at (by omega), show k / 85 = 1 by omega, show k % 85 = k - 85 by omega, show 1 + 85 * 1 + (k - 85) = 1 + k by omega]
theorem b2_bw (Z : Gm) : b2 Z [.ref (ad Z (cLn 0)), .ref (ad Z (cLn 1))] = bw Z (fun _ => initS) := by
  apply List.ext_getElem?
  intro k
  match k with
  | 0 => rfl
  | k + 1 =>
    by_cases hk : k < 170
    · rw [bw_at (by omega)]
      show (lwl Z 0 ++ lwl Z 1)[k]? = _
      rw [l2_at hk, cell_at (w := k / 85) (m := k % 85) (S := initS) (by omega) (by omega) rfl, show 1 + k = k + 1 by omega]
    · have a1 : (b2 Z [.ref (ad Z (cLn 0)), .ref (ad Z (cLn 1))])[k + 1]? = none := List.getElem?_eq_none (by simp [b2, lwl]; omega)
      have a2 : (bw Z (fun _ => initS))[k + 1]? = none := List.getElem?_eq_none (by simp [bw]; omega)
      rw [a1, a2]
theorem b1_D {Z : Gm} (hq : ∀ n, n < 171 → ad Z n = ad Z 0 + n) (x : List Value) : va_D (fun z => ad Z 0 ≤ z) (b1 Z x) := D_seq (ad Z 0) _ (fun k p h => by
  match k, h with
  | 0, h => cases h; rfl
  | k + 1, h =>
    have hk : k < 85 := by
      have := (List.getElem?_eq_some_iff.mp h).1
      simp [b1, lwl] at this
      omega
    have h2 : (lwl Z 0)[k]? = some p := h
    rw [lwl_at hk] at h2
    cases h2
    show ad Z (1 + 85 * 0 + k) = _
    rw [hq _ (by omega)]
    omega)
theorem b2_D {Z : Gm} (hq : ∀ n, n < 171 → ad Z n = ad Z 0 + n) (x : List Value) : va_D (fun z => ad Z 0 ≤ z) (b2 Z x) := D_seq (ad Z 0) _ (fun k p h => by
  match k, h with
  | 0, h => cases h; rfl
  | k + 1, h =>
    have hk : k < 170 := by
      have := (List.getElem?_eq_some_iff.mp h).1
      simp [b2, lwl] at this
      omega
    have h2 : (lwl Z 0 ++ lwl Z 1)[k]? = some p := h
    rw [l2_at hk] at h2
    cases h2
    show ad Z (1 + k) = _
    rw [hq _ (by omega)]
    omega)
theorem b1_lt {Z : Gm} (hq : ∀ n, n < 171 → ad Z n = ad Z 0 + n) (x : List Value) : ∀ (k : Nat) (p : Nat × va_E), (b1 Z x)[k]? = some p → p.1 < ad Z (cLn 1) := fun k p h => by
  rw [hq (cLn 1) (by decide)]
  match k, h with
  | 0, h => cases h; show ad Z 0 < ad Z 0 + 86; omega
  | k + 1, h =>
    have hk : k < 85 := by
      have := (List.getElem?_eq_some_iff.mp h).1
      simp [b1, lwl] at this
      omega
    have h2 : (lwl Z 0)[k]? = some p := h
    rw [lwl_at hk] at h2
    cases h2
    show ad Z (1 + 85 * 0 + k) < ad Z 0 + 86
    rw [hq _ (by omega)]
    omega
theorem hq_w {Z : Gm} (hq : ∀ n, n < 171 → ad Z n = ad Z 0 + n) (w : Nat) (hw : w < 2) : ∀ m, m < 85 → ad Z (1 + 85 * w + m) = ad Z (cLn w) + m := fun m hm => by
  rw [hq _ (by omega), hq (cLn w) (by unfold cLn; omega)]
  unfold cLn
  omega
set_option maxHeartbeats 4000000 in
set_option maxRecDepth 20000 in
theorem c_X4_init (l : Launch) (Z : Gm) (hq : ∀ n, n < 171 → ad Z n = ad Z 0 + n) : Met l yX4_init (.code yX4_init cX4_init 1 none :: gG) ({ frames := 3, cells := 170, slots := 1200, locals := 53 }) (PI Z [(ad Z 0, .inr (4, [.null, .null]))] (ad Z 0 + 1) [.ref (ad Z 0)]) (QI Z (bw Z (fun _ => initS)) (ad Z 0 + 171) (ad Z 0)) 170 1200 (fun x => ad Z 0 ≤ x) := by
  refine met_ofI (by decide +kernel) (Nat.le_of_ble_eq_true rfl) rfl ?_
  intro p e s m args below meth c ls E hX hin hr hlk hml hsz hP hl
  have E : EE Z p s m args c cX4_init RX4 := E
  have hl : lv_has ls 1 [(0, .ref (ad Z 0))] := hl
  have hS : va_S (fun z => ad Z 0 ≤ z) s.heap s.heap [] := va_S.rf
  have hz : s.heap.size = ad Z 0 + 1 := hsz
  have hq1 : ad Z (cLn 0) = ad Z 0 + 1 := hq (cLn 0) (by decide)
  have hq2 : ad Z (cLn 1) = ad Z 0 + 86 := hq (cLn 1) (by decide)
  refine lv_aload_n E.1 E.2.1 dX4_init_0 rfl (lv_at hl 0 rfl) ?_
  refine o_init E hml hl.1 gw_7 (Nat.le_of_ble_eq_true rfl) (Nat.le_of_ble_eq_true rfl) dX4_init_1 ?_
  refine lv_aload_n E.1 E.2.1 dX4_init_4 rfl (lv_at hl 0 rfl) ?_
  refine n_obj E hP hS (ci := 1) (T := TX1) (N := 10) rfl gC1 tyX1 tyX1_ok gw_10 gw_11 gw_12 (fs := [.null, .null, .int 0, .null, .int 0, .null, .int 0, .int 0, .int 0, .int 0]) (fun j hj => by rcases (show j = 0 ∨ j = 1 ∨ j = 2 ∨ j = 3 ∨ j = 4 ∨ j = 5 ∨ j = 6 ∨ j = 7 ∨ j = 8 ∨ j = 9 by omega) with rfl | rfl | rfl | rfl | rfl | rfl | rfl | rfl | rfl | rfl <;> rfl) (Nat.le_of_ble_eq_true rfl) (Nat.le_of_ble_eq_true rfl) dX4_init_5 (h := ad Z (cLn 0)) (hz.trans hq1.symm) (fun H hz hP hS => ?_)
  refine lv_dup E.1 E.2.1 dX4_init_8 rfl ?_
  refine go_I (run_I (rest := [.ref (ad Z (cLn 0)), .ref (ad Z 0)]) E hX hml hl.1 (c_X1_init l Z 0 (hq_w hq 0 (by decide))) k_X1_init ⟨rfl, rfl, Nat.le_of_ble_eq_true rfl, Nat.le_of_ble_eq_true rfl⟩ gw_15 hz (va_P_last hP) rfl (Nat.le_of_ble_eq_true rfl) ⟨Nat.le_of_ble_eq_true rfl, Nat.le_of_ble_eq_true rfl⟩ dX4_init_9) hS (fun x h => Nat.le_trans (by rw [hq1]; omega) h) (by rw [hz]; omega) (fun H1 locs hz1 hP1 hk hS => ?_)
  have hP := va_P_comb (va_P_init hP) (fun k p h => by match k, h with | 0, h => cases h; show ad Z 0 < ad Z (cLn 0); rw [hq1]; omega | k + 1, h => cases h) hk hP1
  have hP : va_P (gD Z) vwCl (b1 Z [.null, .null]) H1 := hP
  have hz1 : H1.size = ad Z 0 + 86 := by rw [hz1, hq1]
  refine z_put E gC4 tyX4 tyX4_ok nmX4 hz1 hP (b1_D hq _) hS 0 rfl rfl 0 (by decide) gw_13 rfl (fun _ => ⟨hin, rfl⟩) (ty := .object "SemaphoreBay$Line") (v := .ref (ad Z (cLn 0))) (by decide +kernel) rfl rfl (Nat.le_of_ble_eq_true rfl) dX4_init_12 (fun H locs hz hP _ hS => ?_)
  have hP : va_P (gD Z) vwCl (b1 Z [.ref (ad Z (cLn 0)), .null]) H := hP
  refine lv_aload_n E.1 E.2.1 dX4_init_15 rfl (lv_at hl 0 rfl) ?_
  refine n_obj E hP hS (ci := 1) (T := TX1) (N := 10) rfl gC1 tyX1 tyX1_ok gw_10 gw_11 gw_12 (fs := [.null, .null, .int 0, .null, .int 0, .null, .int 0, .int 0, .int 0, .int 0]) (fun j hj => by rcases (show j = 0 ∨ j = 1 ∨ j = 2 ∨ j = 3 ∨ j = 4 ∨ j = 5 ∨ j = 6 ∨ j = 7 ∨ j = 8 ∨ j = 9 by omega) with rfl | rfl | rfl | rfl | rfl | rfl | rfl | rfl | rfl | rfl <;> rfl) (Nat.le_of_ble_eq_true rfl) (Nat.le_of_ble_eq_true rfl) dX4_init_16 (h := ad Z (cLn 1)) (hz.trans hq2.symm) (fun H hz hP hS => ?_)
  refine lv_dup E.1 E.2.1 dX4_init_19 rfl ?_
  refine go_I (run_I (rest := [.ref (ad Z (cLn 1)), .ref (ad Z 0)]) E hX hml hl.1 (c_X1_init l Z 1 (hq_w hq 1 (by decide))) k_X1_init ⟨rfl, rfl, Nat.le_of_ble_eq_true rfl, Nat.le_of_ble_eq_true rfl⟩ gw_15 hz (va_P_last hP) rfl (Nat.le_of_ble_eq_true rfl) ⟨Nat.le_of_ble_eq_true rfl, Nat.le_of_ble_eq_true rfl⟩ dX4_init_20) hS (fun x h => Nat.le_trans (by rw [hq2]; omega) h) (by rw [hz]; omega) (fun H1 locs hz1 hP1 hk hS => ?_)
  have hP := va_P_comb (va_P_init hP) (b1_lt hq _) hk hP1
  have hP : va_P (gD Z) vwCl (b2 Z [.ref (ad Z (cLn 0)), .null]) H1 := hP
  have hz1 : H1.size = ad Z 0 + 171 := by rw [hz1, hq2]
  refine z_put E gC4 tyX4 tyX4_ok nmX4 hz1 hP (b2_D hq _) hS 0 rfl rfl 1 (by decide) gw_14 rfl (fun _ => ⟨hin, rfl⟩) (ty := .object "SemaphoreBay$Line") (v := .ref (ad Z (cLn 1))) (by decide +kernel) rfl rfl (Nat.le_of_ble_eq_true rfl) dX4_init_23 (fun H locs hz hP _ hS => ?_)
  have hP : va_P (gD Z) vwCl (b2 Z [.ref (ad Z (cLn 0)), .ref (ad Z (cLn 1))]) H := hP
  have hP : va_P (gD Z) vwCl (bw Z (fun _ => initS)) H := by rw [← b2_bw]; exact hP
  exact W.vret E.1 E.2.1 hr (fun t ht _ => ⟨rfl, by rw [ht]; exact hz, by rw [ht]; exact hP, fun x hx => by rw [ht]; exact hS.2.1 x (by omega) (Nat.not_le.mpr hx)⟩) hS.2.2 dX4_init_26 (hlocks := hlk)
end
section
/-! A tick as a whole: what holds before it holds behind it. S0: a state as it was built; only the places FT are written since. -/
def FT (b n f k j : Nat) : Prop := (f = 9 ∧ k = 0 ∧ j = 0) ∨ ((f = 11 ∨ f = 12) ∧ k < b ∧ j = 0) ∨ ((35 ≤ f ∧ f ≤ 44 ∧ f ≠ 41) ∧ k < n ∧ j = 0) ∨ (f = 45 ∧ k < n ∧ j < 8)
def Fr (b n : Nat) (S0 S : St) : Prop := ∀ f k j, ¬ FT b n f k j → S f k j = S0 f k j
theorem Fr_up {b n f k j : Nat} {S0 S : St} {x : Int32} (hf : FT b n f k j) (h : Fr b n S0 S) : Fr b n S0 (up S f k j x) := by
  intro f' k' j' hn
  have hne : ¬ (f' = f ∧ k' = k ∧ j' = j) := fun e => hn (by rw [e.1, e.2.1, e.2.2]; exact hf)
  exact (if_neg hne).trans (h f' k' j' hn)
theorem Fr.st {b n : Nat} {S0 S : St} (F : Fr b n S0 S) {f : Nat} (h : f ≠ 9 ∧ f ≠ 11 ∧ f ≠ 12 ∧ ¬ (35 ≤ f ∧ f ≤ 44 ∧ f ≠ 41) ∧ f ≠ 45) (k j : Nat) : S f k j = S0 f k j := F f k j (by unfold FT; omega)
def sC (S : St) (r : Nat) : Nat := (S 23 r 0).toNatClampNeg
def sB (S : St) (r j : Nat) : Nat := (S 24 r j).toNatClampNeg
def sP (S : St) (k : Nat) : Nat := (S 32 k 0).toNatClampNeg
def Stc (S0 : St) (b n : Nat) : Prop :=
  (b ≤ 16 ∧ n ≤ 5 ∧ S0 2 0 0 = nI b ∧ S0 4 0 0 = nI 8 ∧ S0 6 0 0 = nI n) ∧
  (∀ r, r < 8 → S0 23 r 0 = nI (sC S0 r) ∧ 1 ≤ sC S0 r ∧ sC S0 r ≤ 5) ∧
  (∀ r, r < 8 → ∃ y, y < 6 ∧ S0 21 r 0 = nI y) ∧
  (∀ r, r < 8 → S0 22 r 0 = 0 ∨ S0 22 r 0 = 1) ∧
  (∀ r j, r < 8 → j < sC S0 r → S0 24 r j = nI (sB S0 r j) ∧ sB S0 r j < b) ∧
  (∀ r i j, r < 8 → i < sC S0 r → j < sC S0 r → sB S0 r i = sB S0 r j → i = j) ∧
  (∀ k, k < n → S0 32 k 0 = nI (sP S0 k) ∧ 1 ≤ sP S0 k ∧ sP S0 k ≤ 8) ∧
  (∀ k j, k < n → j < sP S0 k → ∃ y, y < 6 ∧ S0 33 k j = nI y) ∧
  (∀ k x, k < n → x < b → ∃ l, 1 ≤ l ∧ l ≤ 27 ∧ S0 10 x 0 * S0 31 k 0 = nI l) ∧
  (∀ x, x < 6 → S0 0 0 x = 2)
section STC
variable {S0 : St} {b n : Nat}
theorem Stc.b16 (C : Stc S0 b n) : b ≤ 16 := C.1.1
theorem Stc.n5 (C : Stc S0 b n) : n ≤ 5 := C.1.2.1
theorem Stc.f2 (C : Stc S0 b n) : S0 2 0 0 = nI b := C.1.2.2.1
theorem Stc.f4 (C : Stc S0 b n) : S0 4 0 0 = nI 8 := C.1.2.2.2.1
theorem Stc.f6 (C : Stc S0 b n) : S0 6 0 0 = nI n := C.1.2.2.2.2
theorem Stc.cnt (C : Stc S0 b n) {r : Nat} (hr : r < 8) : S0 23 r 0 = nI (sC S0 r) ∧ 1 ≤ sC S0 r ∧ sC S0 r ≤ 5 := C.2.1 r hr
theorem Stc.to (C : Stc S0 b n) {r : Nat} (hr : r < 8) : ∃ y, y < 6 ∧ S0 21 r 0 = nI y := C.2.2.1 r hr
theorem Stc.wh (C : Stc S0 b n) {r : Nat} (hr : r < 8) : S0 22 r 0 = 0 ∨ S0 22 r 0 = 1 := C.2.2.2.1 r hr
theorem Stc.blk (C : Stc S0 b n) {r j : Nat} (hr : r < 8) (hj : j < sC S0 r) : S0 24 r j = nI (sB S0 r j) ∧ sB S0 r j < b := C.2.2.2.2.1 r j hr hj
theorem Stc.inj (C : Stc S0 b n) {r i j : Nat} (hr : r < 8) (hi : i < sC S0 r) (hj : j < sC S0 r) (h : sB S0 r i = sB S0 r j) : i = j := C.2.2.2.2.2.1 r i j hr hi hj h
theorem Stc.stp (C : Stc S0 b n) {k : Nat} (hk : k < n) : S0 32 k 0 = nI (sP S0 k) ∧ 1 ≤ sP S0 k ∧ sP S0 k ≤ 8 := C.2.2.2.2.2.2.1 k hk
theorem Stc.sta (C : Stc S0 b n) {k j : Nat} (hk : k < n) (hj : j < sP S0 k) : ∃ y, y < 6 ∧ S0 33 k j = nI y := C.2.2.2.2.2.2.2.1 k j hk hj
theorem Stc.len (C : Stc S0 b n) {k x : Nat} (hk : k < n) (hx : x < b) : ∃ l, 1 ≤ l ∧ l ≤ 27 ∧ S0 10 x 0 * S0 31 k 0 = nI l := C.2.2.2.2.2.2.2.2.1 k x hk hx
theorem Stc.pl (C : Stc S0 b n) {x : Nat} (hx : x < 6) : S0 0 0 x = 2 := C.2.2.2.2.2.2.2.2.2 x hx
end STC
section STC2
variable {S0 S S' : St} {b n : Nat}
theorem nB_F (C : Stc S0 b n) (F : Fr b n S0 S) : nB S = b := by
  have := C.b16
  unfold nB
  rw [F.st (by decide), C.f2, nI_clamp (by omega)]
theorem nR_F (C : Stc S0 b n) (F : Fr b n S0 S) : nR S = 8 := by
  unfold nR
  rw [F.st (by decide), C.f4, nI_clamp (by omega)]
theorem nT_F (C : Stc S0 b n) (F : Fr b n S0 S) : nT S = n := by
  have := C.n5
  unfold nT
  rw [F.st (by decide), C.f6, nI_clamp (by omega)]
theorem Lim_F (C : Stc S0 b n) (F : Fr b n S0 S) : Lim S := by
  have h1 := C.b16
  have h2 := C.n5
  unfold Lim
  rw [nB_F C F, nR_F C F, nT_F C F]
  omega
theorem bAt (C : Stc S0 b n) (F : Fr b n S0 S) {r j : Nat} (hr : r < 8) (hj : j < sC S0 r) : blockAtF S r (nI j) = nI (sB S0 r j) := by
  have h5 := (C.cnt hr).2.2
  unfold blockAtF
  rw [if_neg (nI_pos (by omega)), if_neg (show ¬ (5 : Int32) ≤ nI j from fun h => absurd ((nI_leI (a := 5) (by omega) (by omega)).mp h) (by omega)), nI_clamp (by omega), F.st (by decide), (C.blk hr hj).1]
theorem m1_ne {k : Nat} (h : k < 2 ^ 31) : nI k ≠ -1 := nI_ne_m1 h
end STC2
/-! Where a train is. -/
def AtS (S0 S : St) (k : Nat) : Prop := ∃ x ls, x < 6 ∧ ls < sP S0 k ∧ S 36 k 0 = nI x ∧ S 38 k 0 = -1 ∧ S 40 k 0 = 0 ∧ S 35 k 0 = nI ls ∧ S0 33 k ls = nI x
def On (S0 S : St) (k r p : Nat) : Prop := r < 8 ∧ p < sC S0 r ∧ S 36 k 0 = -1 ∧ S 38 k 0 = nI r ∧ S 39 k 0 = nI p ∧ ∃ l ls, l ≤ 27 ∧ S 40 k 0 = nI l ∧ ls + 1 < sP S0 k ∧ S 35 k 0 = nI ls ∧ S0 33 k (ls + 1) = S0 21 r 0
def Dne (S0 S : St) (k : Nat) : Prop := ∃ ls, ls + 1 = sP S0 k ∧ S 36 k 0 = -1 ∧ S 38 k 0 = -1 ∧ S 40 k 0 = 0 ∧ S 35 k 0 = nI ls
def Tri (S0 S : St) (k : Nat) : Prop := AtS S0 S k ∨ (∃ r p, On S0 S k r p) ∨ Dne S0 S k
def TE (S S' : St) (k : Nat) : Prop := S' 36 k 0 = S 36 k 0 ∧ S' 38 k 0 = S 38 k 0 ∧ S' 39 k 0 = S 39 k 0 ∧ S' 35 k 0 = S 35 k 0 ∧ (S' 40 k 0 = S 40 k 0 ∨ (S 38 k 0 ≠ -1 ∧ ∃ l, l ≤ 27 ∧ S' 40 k 0 = nI l))
section WHERE
variable {S0 S S' : St} {b n k r p r' p' : Nat}
theorem TE_refl : TE S S k := ⟨rfl, rfl, rfl, rfl, Or.inl rfl⟩
theorem On.n38 (h : On S0 S k r p) : S 38 k 0 ≠ -1 := by
  rw [h.2.2.2.1]
  exact m1_ne (by have := h.1; omega)
theorem AtS.e38 (h : AtS S0 S k) : S 38 k 0 = -1 := by
  obtain ⟨_, _, _, _, _, h, _⟩ := h
  exact h
theorem AtS.n36 (h : AtS S0 S k) : S 36 k 0 ≠ -1 := by
  obtain ⟨x, _, hx, _, h, _⟩ := h
  rw [h]
  exact m1_ne (by omega)
theorem Dne.e38 (h : Dne S0 S k) : S 38 k 0 = -1 := by
  obtain ⟨_, _, _, h, _⟩ := h
  exact h
theorem Dne.e36 (h : Dne S0 S k) : S 36 k 0 = -1 := by
  obtain ⟨_, _, h, _⟩ := h
  exact h
theorem sC_31 (S : St) (r : Nat) : sC S r < 2 ^ 31 := clamp_lt31 _
theorem On.uq (h : On S0 S k r p) (h' : On S0 S k r' p') : r = r' ∧ p = p' := by
  obtain ⟨a1, a2, _, a4, a5, _⟩ := h
  obtain ⟨b1, b2, _, b4, b5, _⟩ := h'
  have := sC_31 S0 r
  have := sC_31 S0 r'
  exact ⟨nI_inj (by omega) (by omega) (a4.symm.trans b4), nI_inj (by omega) (by omega) (a5.symm.trans b5)⟩
theorem On.te (t : TE S S' k) (h : On S0 S k r p) : On S0 S' k r p := by
  obtain ⟨a1, a2, a3, a4, a5, l, ls, a6, a7, a8, a9, a10⟩ := h
  obtain ⟨t1, t2, t3, t4, t5⟩ := t
  rcases t5 with t5 | ⟨-, l', h1, h2⟩
  · exact ⟨a1, a2, t1.trans a3, t2.trans a4, t3.trans a5, l, ls, a6, t5.trans a7, a8, t4.trans a9, a10⟩
  · exact ⟨a1, a2, t1.trans a3, t2.trans a4, t3.trans a5, l', ls, h1, h2, a8, t4.trans a9, a10⟩
theorem AtS.te (t : TE S S' k) (h : AtS S0 S k) : AtS S0 S' k := by
  obtain ⟨x, ls, a1, a2, a3, a4, a5, a6, a7⟩ := h
  obtain ⟨t1, t2, t3, t4, t5⟩ := t
  rcases t5 with t5 | ⟨t5, -⟩
  · exact ⟨x, ls, a1, a2, t1.trans a3, t2.trans a4, t5.trans a5, t4.trans a6, a7⟩
  · exact absurd a4 t5
theorem Dne.te (t : TE S S' k) (h : Dne S0 S k) : Dne S0 S' k := by
  obtain ⟨ls, a2, a3, a4, a5, a6⟩ := h
  obtain ⟨t1, t2, t3, t4, t5⟩ := t
  rcases t5 with t5 | ⟨t5, -⟩
  · exact ⟨ls, a2, t1.trans a3, t2.trans a4, t5.trans a5, t4.trans a6⟩
  · exact absurd a4 t5
theorem Tri.te (t : TE S S' k) (h : Tri S0 S k) : Tri S0 S' k := by
  rcases h with h | ⟨r, p, h⟩ | h
  · exact Or.inl (h.te t)
  · exact Or.inr (Or.inl ⟨r, p, h.te t⟩)
  · exact Or.inr (Or.inr (h.te t))
theorem On.back (h0 : Tri S0 S k) (t : TE S S' k) (h : On S0 S' k r p) : On S0 S k r p := by
  have h38 : S 38 k 0 ≠ -1 := fun e => h.n38 (t.2.1.trans e)
  rcases h0 with h0 | ⟨r1, p1, h0⟩ | h0
  · exact absurd h0.e38 h38
  · obtain ⟨rfl, rfl⟩ := (h0.te t).uq h
    exact h0
  · exact absurd h0.e38 h38
end WHERE
/-! Counting. -/
theorem cnt_cg {f g : Nat → Bool} : ∀ n : Nat, (∀ k, k < n → g k = f k) → cntTo g n = cntTo f n
  | 0, _ => rfl
  | n + 1, h => by
    show cntTo g n + _ = cntTo f n + _
    rw [cnt_cg n (fun k hk => h k (by omega)), h n (by omega)]
theorem cnt_ch {f g : Nat → Bool} {i : Nat} : ∀ n : Nat, i < n → (∀ k, k < n → k ≠ i → g k = f k) → cntTo g n + (if f i = true then 1 else 0) = cntTo f n + (if g i = true then 1 else 0)
  | 0, hi, _ => absurd hi (Nat.not_lt_zero _)
  | n + 1, hi, h => by
    show cntTo g n + (if g n = true then 1 else 0) + _ = cntTo f n + (if f n = true then 1 else 0) + _
    by_cases hn : i = n
    · subst hn
      rw [cnt_cg i (fun k hk => h k (by omega) (by omega))]
      omega
    · have ih := cnt_ch (f := f) (g := g) (i := i) n (by omega) (fun k hk => h k (by omega))
      rw [h n (by omega) (fun e => hn e.symm)]
      omega
theorem cnt_le (f : Nat → Bool) : ∀ n : Nat, cntTo f n ≤ n
  | 0 => Nat.le_refl _
  | n + 1 => by
    have := cnt_le f n
    show cntTo f n + _ ≤ _
    split <;> omega
theorem cnt_0 (f : Nat → Bool) : ∀ n : Nat, cntTo f n = 0 → ∀ k, k < n → f k = false
  | 0, _, k, hk => absurd hk (Nat.not_lt_zero _)
  | n + 1, h, k, hk => by
    have h : cntTo f n + (if f n = true then 1 else 0) = 0 := h
    by_cases hn : k = n
    · subst hn
      cases hf : f k
      · rfl
      · rw [hf] at h; simp at h
    · exact cnt_0 f n (by omega) k (by omega)
theorem cnt_pos (f : Nat → Bool) : ∀ n k : Nat, k < n → f k = true → 0 < cntTo f n
  | 0, k, hk, _ => absurd hk (Nat.not_lt_zero _)
  | n + 1, k, hk, h => by
    show 0 < cntTo f n + (if f n = true then 1 else 0)
    by_cases hn : k = n
    · subst hn
      rw [if_pos h]
      omega
    · have := cnt_pos f n k (by omega) h
      omega
/-! What holds of a state between two ticks (and in a tick, between two moves). -/
def heldQ (S : St) (x : Nat) : Bool := decide (S 11 x 0 ≠ -1)
def Inv (b n : Nat) (S0 S : St) : Prop :=
  Fr b n S0 S ∧ (∀ k, k < n → Tri S0 S k) ∧ (∀ k r p, k < n → On S0 S k r p → S 11 (sB S0 r p) 0 = nI k) ∧
  (∀ x, x < b → S 11 x 0 = -1 ∨ ∃ k r p, k < n ∧ On S0 S k r p ∧ sB S0 r p = x) ∧
  (∀ x, x < b → S 12 x 0 = -1 ∨ (S 11 x 0 = -1 ∧ ∃ k r p j, k < n ∧ S 12 x 0 = nI k ∧ On S0 S k r p ∧ S0 22 r 0 = 1 ∧ p < j ∧ j < sC S0 r ∧ sB S0 r j = x)) ∧
  (∀ x, x < 6 → cntTo (atQ S (nI x)) n + cntTo (wayQ S (nI x)) n ≤ 2) ∧
  cntTo (heldQ S) b = cntTo (onBlockF S) n
section INV
variable {S0 S S' : St} {b n i k r p : Nat}
theorem wayQ_on (C : Stc S0 b n) (F : Fr b n S0 S) {x : Int32} (h : On S0 S k r p) : wayQ S x k = decide (S0 21 r 0 = x) := by
  obtain ⟨a1, a2, _, a4, _⟩ := h
  unfold wayQ
  rw [a4, F.st (f := 4) (by decide), C.f4, nI_clamp (by omega), F.st (f := 21) (by decide)]
  have h1 : ¬ nI r < 0 := nI_pos (by omega)
  have h2 : ¬ nI 8 ≤ nI r := fun h => absurd ((nI_leI (by omega) (by omega)).mp h) (by omega)
  simp [h1, h2]
theorem wayQ_off {x : Int32} (h : S 38 k 0 = -1) : wayQ S x k = false := by
  unfold wayQ
  rw [h]
  have h1 : (-1 : Int32) < 0 := by decide
  simp [h1]
theorem wayQ_cg (F : Fr b n S0 S) (F' : Fr b n S0 S') {x : Int32} (t : TE S S' k) : wayQ S' x k = wayQ S x k := by
  unfold wayQ
  rw [t.2.1, F'.st (f := 4) (by decide), F.st (f := 4) (by decide), F'.st (f := 21) (by decide), F.st (f := 21) (by decide)]
theorem atQ_cg {x : Int32} (t : TE S S' k) : atQ S' x k = atQ S x k := by unfold atQ; rw [t.1]
theorem onB_cg (t : TE S S' k) : onBlockF S' k = onBlockF S k := by unfold onBlockF; rw [t.2.1]
theorem atQ_m1 {x : Nat} (hx : x < 6) (h : S 36 k 0 = -1) : atQ S (nI x) k = false := by
  unfold atQ
  rw [h]
  exact decide_eq_false (fun e => m1_ne (by omega) e.symm)
/-- the room, when one train has moved -/
theorem room_ch (F : Fr b n S0 S) (F' : Fr b n S0 S') (hi : i < n) (ht : ∀ k, k < n → k ≠ i → TE S S' k) (x : Int32) :
    cntTo (atQ S' x) n + cntTo (wayQ S' x) n + (if atQ S x i = true then 1 else 0) + (if wayQ S x i = true then 1 else 0) = cntTo (atQ S x) n + cntTo (wayQ S x) n + (if atQ S' x i = true then 1 else 0) + (if wayQ S' x i = true then 1 else 0) := by
  have h1 := cnt_ch (f := atQ S x) (g := atQ S' x) n hi (fun k hk hn => atQ_cg (ht k hk hn))
  have h2 := cnt_ch (f := wayQ S x) (g := wayQ S' x) n hi (fun k hk hn => wayQ_cg F F' (ht k hk hn))
  omega
theorem on_ch (hi : i < n) (ht : ∀ k, k < n → k ≠ i → TE S S' k) : cntTo (onBlockF S') n + (if onBlockF S i = true then 1 else 0) = cntTo (onBlockF S) n + (if onBlockF S' i = true then 1 else 0) := cnt_ch n hi (fun k hk hn => onB_cg (ht k hk hn))
theorem onB_t (h : On S0 S k r p) : onBlockF S k = true := decide_eq_true h.n38
theorem onB_f (h : S 38 k 0 = -1) : onBlockF S k = false := decide_eq_false (fun e => e h)
/-- nothing moves -/
theorem Inv.stay (I : Inv b n S0 S) (F' : Fr b n S0 S') (ht : ∀ k, k < n → TE S S' k) (h11 : ∀ x, x < b → S' 11 x 0 = S 11 x 0) (h12 : ∀ x, x < b → S' 12 x 0 = S 12 x 0) (C : Stc S0 b n) : Inv b n S0 S' := by
  obtain ⟨F, i1, i2, i3, i4, i5, i6⟩ := I
  refine ⟨F', fun k hk => (i1 k hk).te (ht k hk), fun k r p hk o => ?_, fun x hx => ?_, fun x hx => ?_, fun x hx => ?_, ?_⟩
  · have o' := o.back (i1 k hk) (ht k hk)
    rw [h11 _ (C.blk o.1 o.2.1).2]
    exact i2 k r p hk o'
  · rw [h11 x hx]
    rcases i3 x hx with h | ⟨k, r, p, hk, o, e⟩
    · exact Or.inl h
    · exact Or.inr ⟨k, r, p, hk, o.te (ht k hk), e⟩
  · rw [h11 x hx, h12 x hx]
    rcases i4 x hx with h | ⟨h, k, r, p, j, hk, e, o, q⟩
    · exact Or.inl h
    · exact Or.inr ⟨h, k, r, p, j, hk, e, o.te (ht k hk), q⟩
  · rw [cnt_cg n (f := atQ S (nI x)) (fun k hk => atQ_cg (ht k hk)), cnt_cg n (f := wayQ S (nI x)) (fun k hk => wayQ_cg F F' (ht k hk))]
    exact i5 x hx
  · rw [cnt_cg b (f := heldQ S) (fun x hx => by unfold heldQ; rw [h11 x hx]), cnt_cg n (f := onBlockF S) (fun k hk => onB_cg (ht k hk))]
    exact i6
/-- a train comes to a station -/
theorem Inv.come (C : Stc S0 b n) (I : Inv b n S0 S) (F' : Fr b n S0 S') (hi : i < n) (O : On S0 S i r p) (hp : ¬ p + 1 < sC S0 r) (ht : ∀ k, k < n → k ≠ i → TE S S' k) (h11 : ∀ x, x < b → S' 11 x 0 = if x = sB S0 r p then -1 else S 11 x 0) (h12 : ∀ x, x < b → S' 12 x 0 = S 12 x 0) (hT : (AtS S0 S' i ∧ S' 36 i 0 = S0 21 r 0) ∨ Dne S0 S' i) : Inv b n S0 S' := by
  obtain ⟨F, i1, i2, i3, i4, i5, i6⟩ := I
  have h38 : S' 38 i 0 = -1 := hT.elim (fun h => h.1.e38) (fun h => h.e38)
  have hn5 := C.n5
  have hB := C.blk O.1 O.2.1
  have hH := i2 i r p hi O
  refine ⟨F', fun k hk => ?_, fun k r' p' hk o => ?_, fun x hx => ?_, fun x hx => ?_, fun x hx => ?_, ?_⟩
  · by_cases e : k = i
    · subst e
      exact hT.elim (fun h => Or.inl h.1) (fun h => Or.inr (Or.inr h))
    · exact (i1 k hk).te (ht k hk e)
  · by_cases e : k = i
    · subst e
      exact absurd h38 o.n38
    · have o' := o.back (i1 k hk) (ht k hk e)
      have h := i2 k r' p' hk o'
      rw [h11 _ (C.blk o.1 o.2.1).2, if_neg, h]
      intro q
      rw [q, hH] at h
      exact e (nI_inj (by omega) (by omega) h.symm)
  · rw [h11 x hx]
    by_cases e : x = sB S0 r p
    · rw [if_pos e]; exact Or.inl rfl
    · rw [if_neg e]
      rcases i3 x hx with h | ⟨k, r', p', hk, o, q⟩
      · exact Or.inl h
      · by_cases e2 : k = i
        · subst e2
          obtain ⟨rfl, rfl⟩ := O.uq o
          exact absurd q.symm e
        · exact Or.inr ⟨k, r', p', hk, o.te (ht k hk e2), q⟩
  · rw [h11 x hx, h12 x hx]
    rcases i4 x hx with h | ⟨h, k, r', p', j, hk, q, o, w, q1, q2, q3⟩
    · exact Or.inl h
    · by_cases e2 : k = i
      · subst e2
        obtain ⟨rfl, rfl⟩ := O.uq o
        omega
      · refine Or.inr ⟨?_, k, r', p', j, hk, q, o.te (ht k hk e2), w, q1, q2, q3⟩
        split
        · rfl
        · exact h
  · have h := room_ch F F' hi ht (nI x)
    have h5 := i5 x hx
    rw [atQ_m1 (S := S) hx O.2.2.1, wayQ_on C F O, wayQ_off (S := S') h38] at h
    rcases hT with ⟨hA, hto⟩ | hD
    · have e : atQ S' (nI x) i = decide (S0 21 r 0 = nI x) := by unfold atQ; rw [hto]
      rw [e] at h
      simp only [Bool.false_eq_true, if_false] at h
      omega
    · rw [atQ_m1 hx hD.e36] at h
      simp only [Bool.false_eq_true, if_false] at h
      omega
  · have h1 := on_ch hi ht
    have h2 := cnt_ch (f := heldQ S) (g := heldQ S') b hB.2 (fun x hx hn => by unfold heldQ; rw [h11 x hx, if_neg hn])
    have e1 : heldQ S (sB S0 r p) = true := by unfold heldQ; rw [hH]; exact decide_eq_true (m1_ne (by omega))
    have e2 : heldQ S' (sB S0 r p) = false := by unfold heldQ; rw [h11 _ hB.2, if_pos rfl]; exact decide_eq_false (fun e => e rfl)
    rw [e1, e2] at h2
    rw [onB_t O, onB_f h38] at h1
    simp only [Bool.false_eq_true, if_false, if_true] at h1 h2
    omega
end INV
end
section
/-! A train goes on to the next block, or sets out. -/
section MOVE
variable {S0 S S' : St} {b n i k r p : Nat}
theorem Inv.go (C : Stc S0 b n) (I : Inv b n S0 S) (F' : Fr b n S0 S') (hi : i < n) (O : On S0 S i r p) (O' : On S0 S' i r (p + 1)) (ht : ∀ k, k < n → k ≠ i → TE S S' k) (hc : S 11 (sB S0 r (p + 1)) 0 = -1)
    (h11 : ∀ x, x < b → S' 11 x 0 = if x = sB S0 r (p + 1) then nI i else if x = sB S0 r p then -1 else S 11 x 0) (h12 : ∀ x, x < b → S' 12 x 0 = if x = sB S0 r (p + 1) then -1 else S 12 x 0) : Inv b n S0 S' := by
  obtain ⟨F, i1, i2, i3, i4, i5, i6⟩ := I
  have hn5 := C.n5
  have hB := C.blk O.1 O.2.1
  have hC := C.blk O'.1 O'.2.1
  have hH := i2 i r p hi O
  have hBC : sB S0 r p ≠ sB S0 r (p + 1) := fun e => by
    have := C.inj O.1 O.2.1 O'.2.1 e
    omega
  refine ⟨F', fun k hk => ?_, fun k r' p' hk o => ?_, fun x hx => ?_, fun x hx => ?_, fun x hx => ?_, ?_⟩
  · by_cases e : k = i
    · subst e
      exact Or.inr (Or.inl ⟨r, p + 1, O'⟩)
    · exact (i1 k hk).te (ht k hk e)
  · by_cases e : k = i
    · subst e
      obtain ⟨rfl, rfl⟩ := O'.uq o
      rw [h11 _ hC.2, if_pos rfl]
    · have o' := o.back (i1 k hk) (ht k hk e)
      have h := i2 k r' p' hk o'
      rw [h11 _ (C.blk o.1 o.2.1).2, if_neg, if_neg, h]
      · intro q
        rw [q, hH] at h
        exact e (nI_inj (by omega) (by omega) h.symm)
      · intro q
        rw [q, hc] at h
        exact m1_ne (by omega) h.symm
  · rw [h11 x hx]
    by_cases e0 : x = sB S0 r (p + 1)
    · exact Or.inr ⟨i, r, p + 1, hi, O', e0.symm⟩
    rw [if_neg e0]
    by_cases e : x = sB S0 r p
    · rw [if_pos e]; exact Or.inl rfl
    · rw [if_neg e]
      rcases i3 x hx with h | ⟨k, r', p', hk, o, q⟩
      · exact Or.inl h
      · by_cases e2 : k = i
        · subst e2
          obtain ⟨rfl, rfl⟩ := O.uq o
          exact absurd q.symm e
        · exact Or.inr ⟨k, r', p', hk, o.te (ht k hk e2), q⟩
  · rw [h11 x hx, h12 x hx]
    by_cases e0 : x = sB S0 r (p + 1)
    · rw [if_pos e0]; exact Or.inl rfl
    rw [if_neg e0, if_neg e0]
    rcases i4 x hx with h | ⟨h, k, r', p', j, hk, q, o, w, q1, q2, q3⟩
    · exact Or.inl h
    · have hv : (if x = sB S0 r p then -1 else S 11 x 0) = -1 := by
        split
        · rfl
        · exact h
      by_cases e2 : k = i
      · subst e2
        obtain ⟨rfl, rfl⟩ := O.uq o
        have hj : j ≠ p + 1 := fun e => e0 (by rw [← q3, e])
        exact Or.inr ⟨hv, k, r, p + 1, j, hk, q, O', w, by omega, q2, q3⟩
      · exact Or.inr ⟨hv, k, r', p', j, hk, q, o.te (ht k hk e2), w, q1, q2, q3⟩
  · have h := room_ch F F' hi ht (nI x)
    have h5 := i5 x hx
    rw [atQ_m1 (S := S) hx O.2.2.1, wayQ_on C F O, atQ_m1 (S := S') hx O'.2.2.1, wayQ_on C F' O'] at h
    omega
  · have h1 := on_ch hi ht
    have h2 := cnt_ch (f := heldQ S) (g := fun x => if x = sB S0 r p then false else heldQ S x) b hB.2 (fun x hx hn => if_neg hn)
    have h3 := cnt_ch (f := fun x => if x = sB S0 r p then false else heldQ S x) (g := heldQ S') b hC.2 (fun x hx hn => by
      show _ = if x = sB S0 r p then false else heldQ S x
      unfold heldQ
      rw [h11 x hx, if_neg hn]
      split
      · exact decide_eq_false (fun e => e rfl)
      · rfl)
    have e1 : heldQ S (sB S0 r p) = true := by unfold heldQ; rw [hH]; exact decide_eq_true (m1_ne (by omega))
    have e2 : heldQ S (sB S0 r (p + 1)) = false := by unfold heldQ; rw [hc]; exact decide_eq_false (fun e => e rfl)
    have e3 : heldQ S' (sB S0 r (p + 1)) = true := by unfold heldQ; rw [h11 _ hC.2, if_pos rfl]; exact decide_eq_true (m1_ne (by omega))
    simp only [e1, e2, e3, if_true, Bool.false_eq_true, if_false, ite_self] at h2 h3
    rw [onB_t O, onB_t O'] at h1
    omega
theorem Inv.out (C : Stc S0 b n) (I : Inv b n S0 S) (F' : Fr b n S0 S') (hi : i < n) (A : AtS S0 S i) (O' : On S0 S' i r 0) (ht : ∀ k, k < n → k ≠ i → TE S S' k)
    (hc : S 11 (sB S0 r 0) 0 = -1) (hw : ∀ j, S0 22 r 0 = 1 → j < sC S0 r → S 11 (sB S0 r j) 0 = -1)
    (h11 : ∀ x, x < b → S' 11 x 0 = if x = sB S0 r 0 then nI i else S 11 x 0)
    (h12 : ∀ x, x < b → (x = sB S0 r 0 → S' 12 x 0 = -1) ∧ (x ≠ sB S0 r 0 → S' 12 x 0 = S 12 x 0 ∨ (S0 22 r 0 = 1 ∧ S' 12 x 0 = nI i ∧ ∃ j, 0 < j ∧ j < sC S0 r ∧ sB S0 r j = x)))
    (hroom : ∀ x, x < 6 → S0 21 r 0 = nI x → cntTo (atQ S (nI x)) n + cntTo (wayQ S (nI x)) n < 2) : Inv b n S0 S' := by
  obtain ⟨F, i1, i2, i3, i4, i5, i6⟩ := I
  have hn5 := C.n5
  have hC := C.blk O'.1 O'.2.1
  have noA : ∀ r' p', ¬ On S0 S i r' p' := fun r' p' o => o.n38 A.e38
  refine ⟨F', fun k hk => ?_, fun k r' p' hk o => ?_, fun x hx => ?_, fun x hx => ?_, fun x hx => ?_, ?_⟩
  · by_cases e : k = i
    · subst e
      exact Or.inr (Or.inl ⟨r, 0, O'⟩)
    · exact (i1 k hk).te (ht k hk e)
  · by_cases e : k = i
    · subst e
      obtain ⟨rfl, rfl⟩ := O'.uq o
      rw [h11 _ hC.2, if_pos rfl]
    · have o' := o.back (i1 k hk) (ht k hk e)
      have h := i2 k r' p' hk o'
      rw [h11 _ (C.blk o.1 o.2.1).2, if_neg, h]
      intro q
      rw [q, hc] at h
      exact m1_ne (by omega) h.symm
  · rw [h11 x hx]
    by_cases e0 : x = sB S0 r 0
    · exact Or.inr ⟨i, r, 0, hi, O', e0.symm⟩
    rw [if_neg e0]
    rcases i3 x hx with h | ⟨k, r', p', hk, o, q⟩
    · exact Or.inl h
    · by_cases e2 : k = i
      · subst e2
        exact absurd o (noA _ _)
      · exact Or.inr ⟨k, r', p', hk, o.te (ht k hk e2), q⟩
  · rw [h11 x hx]
    by_cases e0 : x = sB S0 r 0
    · exact Or.inl ((h12 x hx).1 e0)
    rw [if_neg e0]
    rcases (h12 x hx).2 e0 with e | ⟨w, e, j, j0, j1, j2⟩
    · rw [e]
      rcases i4 x hx with h | ⟨h, k, r', p', j, hk, q, o, w, q1, q2, q3⟩
      · exact Or.inl h
      · by_cases e2 : k = i
        · subst e2
          exact absurd o (noA _ _)
        · exact Or.inr ⟨h, k, r', p', j, hk, q, o.te (ht k hk e2), w, q1, q2, q3⟩
    · refine Or.inr ⟨?_, i, r, 0, j, hi, e, O', w, j0, j1, j2⟩
      rw [← j2]
      exact hw j w j1
  · have h := room_ch F F' hi ht (nI x)
    have h5 := i5 x hx
    rw [wayQ_off (S := S) A.e38, atQ_m1 (S := S') hx O'.2.2.1, wayQ_on C F' O'] at h
    by_cases e : S0 21 r 0 = nI x
    · have := hroom x hx e
      simp only [e, decide_true, if_true, Bool.false_eq_true, if_false] at h
      omega
    · simp only [e, decide_false, Bool.false_eq_true, if_false] at h
      omega
  · have h1 := on_ch hi ht
    have h2 := cnt_ch (f := heldQ S) (g := heldQ S') b hC.2 (fun x hx hn => by unfold heldQ; rw [h11 x hx, if_neg hn])
    have e1 : heldQ S (sB S0 r 0) = false := by unfold heldQ; rw [hc]; exact decide_eq_false (fun e => e rfl)
    have e2 : heldQ S' (sB S0 r 0) = true := by unfold heldQ; rw [h11 _ hC.2, if_pos rfl]; exact decide_eq_true (m1_ne (by omega))
    rw [e1, e2] at h2
    rw [onB_f A.e38, onB_t O'] at h1
    simp only [Bool.false_eq_true, if_false, if_true] at h1 h2
    omega
end MOVE
end
section
/-! What the steps of a tick do, at a state that is as it must be. -/
section STEP
variable {S0 S S' : St} {b n i k r p : Nat}
theorem le_no {a c : Nat} (h : c < a) (ha : a < 2 ^ 31) : ¬ nI a ≤ nI c := fun q => absurd ((nI_leI ha (by omega)).mp q) (by omega)
theorem up_11 {S : St} {B x : Nat} {v : Int32} : up S 11 B 0 v 11 x 0 = if x = B then v else S 11 x 0 := by
  by_cases h : x = B
  · rw [if_pos h, h]; exact up_s
  · rw [if_neg h]; exact up_k h
theorem up_12 {S : St} {B x : Nat} {v : Int32} : up S 12 B 0 v 12 x 0 = if x = B then v else S 12 x 0 := by
  by_cases h : x = B
  · rw [if_pos h, h]; exact up_s
  · rw [if_neg h]; exact up_k h
theorem under_on (C : Stc S0 b n) (F : Fr b n S0 S) (h : On S0 S k r p) : underF S k = nI (sB S0 r p) := by
  obtain ⟨a1, a2, _, a4, a5, _⟩ := h
  unfold underF
  rw [a4, a5, F.st (f := 4) (by decide), C.f4, if_neg (nI_pos (by omega)), if_neg (le_no (a := 8) (by omega) (by omega)), nI_clamp (by omega)]
  exact bAt C F a1 a2
theorem under_off (h : S 38 k 0 = -1) : underF S k = -1 := by
  unfold underF
  rw [h]
  exact if_pos (by decide)
theorem leave_on (C : Stc S0 b n) (F : Fr b n S0 S) (h : On S0 S i r p) : leaveF S i = up S 11 (sB S0 r p) 0 (-1) := by
  have hB := C.blk h.1 h.2.1
  have := C.b16
  unfold leaveF
  rw [under_on C F h, F.st (f := 2) (by decide), C.f2, if_neg (nI_pos (by omega)), if_neg (le_no hB.2 (by omega)), nI_clamp (by omega)]
def entU (S : St) (i r p B : Nat) : St := up (up (up (up (up (up S 36 i 0 (-1)) 38 i 0 (nI r)) 39 i 0 (nI p)) 40 i 0 (S 10 B 0 * S 31 i 0)) 11 B 0 (nI i)) 12 B 0 (-1)
theorem enter_eq (C : Stc S0 b n) (F : Fr b n S0 S) (hr : r < 8) (hp : p < sC S0 r) : enterF S i (nI r) (nI p) = entU S i r p (sB S0 r p) := by
  have hB := C.blk hr hp
  have := C.b16
  unfold enterF
  rw [nI_clamp (n := r) (by omega), bAt C F hr hp, F.st (f := 2) (by decide), C.f2, if_neg (nI_pos (by omega)), if_neg (not_not_intro (nI_lt hB.2 (by omega))), nI_clamp (by omega)]
  rfl
theorem clear_eq (C : Stc S0 b n) (F : Fr b n S0 S) {x : Nat} (hx : x < b) (m : Int32) : clearF S (nI x) m = decide (¬ S 9 0 0 < S 13 x 0 ∧ S 11 x 0 = -1 ∧ (S 12 x 0 = -1 ∨ S 12 x 0 = m)) := by
  have := C.b16
  unfold clearF
  rw [F.st (f := 2) (by decide), C.f2, if_neg (nI_pos (by omega)), if_neg (not_not_intro (nI_lt hx (by omega))), nI_clamp (by omega)]
theorem held_val (I : Inv b n S0 S) {x : Nat} (hx : x < b) : S 11 x 0 = -1 ∨ ∃ q, q < n ∧ S 11 x 0 = nI q := by
  rcases I.2.2.2.1 x hx with h | ⟨k, r, p, hk, o, e⟩
  · exact Or.inl h
  · exact Or.inr ⟨k, hk, by rw [← e]; exact I.2.2.1 k r p hk o⟩
theorem lock_val (I : Inv b n S0 S) {x : Nat} (hx : x < b) : S 12 x 0 = -1 ∨ ∃ q, q < n ∧ S 12 x 0 = nI q := by
  rcases I.2.2.2.2.1 x hx with h | ⟨_, k, _, _, _, hk, e, _⟩
  · exact Or.inl h
  · exact Or.inr ⟨k, hk, e⟩
theorem inWay_ok (C : Stc S0 b n) (I : Inv b n S0 S) {x : Nat} (hx : x < b) (hne : S 11 x 0 ≠ nI i) : inWayF S (nI x) (nI i) = -1 ∨ ∃ q, q < n ∧ q ≠ i ∧ inWayF S (nI x) (nI i) = nI q := by
  have := C.b16
  unfold inWayF
  rw [I.1.st (f := 2) (by decide), C.f2, if_neg (nI_pos (by omega)), if_neg (not_not_intro (nI_lt hx (by omega))), nI_clamp (by omega)]
  by_cases h : S 11 x 0 = -1
  · rw [if_pos h]
    by_cases h2 : S 12 x 0 = nI i
    · rw [if_pos h2]; exact Or.inl rfl
    · rw [if_neg h2]
      rcases lock_val I hx with h3 | ⟨q, hq, e⟩
      · exact Or.inl h3
      · exact Or.inr ⟨q, hq, fun e2 => h2 (by rw [e, e2]), e⟩
  · rw [if_neg h]
    rcases held_val I hx with h3 | ⟨q, hq, e⟩
    · exact absurd h3 h
    · exact Or.inr ⟨q, hq, fun e2 => hne (by rw [e, e2]), e⟩
def comeU (S : St) (i B ls : Nat) : St := up (up (up (up S 11 B 0 (-1)) 38 i 0 (-1)) 35 i 0 (nI (ls + 1))) 37 i 0 (S 9 0 0)
theorem come_eq (C : Stc S0 b n) (F : Fr b n S0 S) (hi : i < n) (O : On S0 S i r p) {ls : Nat} (hls : S 35 i 0 = nI ls) (hl : ls + 1 < sP S0 i) :
    (ls + 2 = sP S0 i ∧ ∃ v, comeF S i = up (comeU S i (sB S0 r p) ls) 42 i 0 v) ∨ (ls + 2 < sP S0 i ∧ comeF S i = up (comeU S i (sB S0 r p) ls) 36 i 0 (S0 33 i (ls + 1))) := by
  have hs := C.stp hi
  have e0 : comeF S i = comeT (comeU S i (sB S0 r p) ls) i := by
    unfold comeF
    rw [leave_on C F O, up_f (show (35 : Nat) ≠ 11 by decide), up_f (show (9 : Nat) ≠ 11 by decide), hls, nI_1]
    rfl
  have e35 : comeU S i (sB S0 r p) ls 35 i 0 = nI (ls + 1) := (up_f (by decide)).trans up_s
  have e32 : comeU S i (sB S0 r p) ls 32 i 0 = nI (sP S0 i) := by
    unfold comeU
    rw [up_f (by decide), up_f (by decide), up_f (by decide), up_f (by decide), F.st (by decide), hs.1]
  have e33 : ∀ j, comeU S i (sB S0 r p) ls 33 i j = S0 33 i j := fun j => by
    unfold comeU
    rw [up_f (by decide), up_f (by decide), up_f (by decide), up_f (by decide), F.st (by decide)]
  have epred : nI (sP S0 i) - 1 = nI (sP S0 i - 1) := by
    have := nI_pred (sP S0 i - 1)
    rw [show sP S0 i - 1 + 1 = sP S0 i by omega] at this
    exact this
  rw [e0]
  unfold comeT lastF
  rw [e35, e32, epred]
  by_cases h : ls + 2 = sP S0 i
  · refine Or.inl ⟨h, ?_⟩
    rw [if_pos (decide_eq_true (nI_nlt (by omega) (by omega)))]
    exact ⟨_, rfl⟩
  · refine Or.inr ⟨by omega, ?_⟩
    have hn : ¬ decide (¬ nI (ls + 1) < nI (sP S0 i - 1)) = true := fun q => of_decide_eq_true q (nI_lt (by omega) (by omega))
    rw [if_neg hn]
    unfold stationF
    rw [if_neg (nI_pos (by omega)), if_neg (show ¬ (8 : Int32) ≤ nI (ls + 1) from le_no (a := 8) (by omega) (by omega)), nI_clamp (by omega), e33]
theorem TE_of (h : ∀ f j, 30 ≤ f → S' f k j = S f k j) : TE S S' k := ⟨h 36 0 (by omega), h 38 0 (by omega), h 39 0 (by omega), h 35 0 (by omega), Or.inl (h 40 0 (by omega))⟩
def Oth (S S' : St) (i : Nat) : Prop := (∀ f k j, 30 ≤ f → k ≠ i → S' f k j = S f k j) ∧ ∀ f k j, f < 10 → S' f k j = S f k j
def Wt (n : Nat) (S S' : St) (i : Nat) : Prop := ∃ o, (o = -1 ∨ ∃ q, q < n ∧ q ≠ i ∧ o = nI q) ∧ ∀ f j, 43 ≤ f → S' f i j = waitF S i o f i j
def Nt (S S' : St) (i : Nat) : Prop := ∀ f j, 43 ≤ f → S' f i j = S f i j
theorem Oth.te (h : Oth S S' i) (hk : k ≠ i) : TE S S' k := TE_of fun f j hf => h.1 f k j hf hk
theorem wait_ne {o : Int32} {f k j : Nat} (h : f < 43 ∨ k ≠ i) : waitF S i o f k j = S f k j := by
  have key : ∀ (T : St) (f' j' : Nat) (x : Int32), 43 ≤ f' → up T f' i j' x f k j = T f k j := fun T f' j' x hf => if_neg fun e => by omega
  unfold waitF
  split
  · rw [key _ _ _ _ (by omega), key _ _ _ _ (by omega)]
  · split
    · rw [key _ _ _ _ (by omega), key _ _ _ _ (by omega)]
    · rw [key _ _ _ _ (by omega), key _ _ _ _ (by omega), key _ _ _ _ (by omega)]
theorem wait_cg {o : Int32} (h : ∀ f j, 43 ≤ f → S' f i j = S f i j) {f j : Nat} (hf : 43 ≤ f) : waitF S' i o f i j = waitF S i o f i j := by
  have key : ∀ (T T' : St) (f' j' : Nat) (x : Int32), T' f i j = T f i j → up T' f' i j' x f i j = up T f' i j' x f i j := fun T T' f' j' x e => by unfold up; rw [e]
  unfold waitF
  rw [h 43 0 (by omega), h 45 _ (by omega)]
  split
  · exact key _ _ _ _ _ (key _ _ _ _ _ (h f j hf))
  · split
    · exact key _ _ _ _ _ (key _ _ _ _ _ (h f j hf))
    · exact key _ _ _ _ _ (key _ _ _ _ _ (key _ _ _ _ _ (h f j hf)))
theorem Fr_wait (F : Fr b n S0 S) (hi : i < n) {o : Int32} : Fr b n S0 (waitF S i o) := by
  have h43 : FT b n 43 i 0 := by unfold FT; omega
  have h44 : FT b n 44 i 0 := by unfold FT; omega
  unfold waitF
  split
  · exact Fr_up h44 (Fr_up h43 F)
  · split
    · exact Fr_up h44 (Fr_up h43 F)
    · rename_i h0 h8
      refine Fr_up ?_ (Fr_up h44 (Fr_up h43 F))
      have := vp_lt (vin (x := o) (N := 8) (n := 8) h0 h8 (by decide))
      unfold FT
      omega
theorem Oth_wait {o : Int32} : Oth S (waitF S i o) i := ⟨fun _ _ _ _ hk => wait_ne (Or.inr hk), fun _ _ _ hf => wait_ne (Or.inl (by omega))⟩
theorem Inv.wait (C : Stc S0 b n) (I : Inv b n S0 S) (hi : i < n) (o : Int32) : Inv b n S0 (waitF S i o) := I.stay (Fr_wait I.1 hi) (fun k _ => ⟨wait_ne (Or.inl (by omega)), wait_ne (Or.inl (by omega)), wait_ne (Or.inl (by omega)), wait_ne (Or.inl (by omega)), Or.inl (wait_ne (Or.inl (by omega)))⟩) (fun x _ => wait_ne (Or.inl (by omega))) (fun x _ => wait_ne (Or.inl (by omega))) C
theorem Wt_wait {o : Int32} (h : o = -1 ∨ ∃ q, q < n ∧ q ≠ i ∧ o = nI q) : Wt n S (waitF S i o) i := ⟨o, h, fun _ _ _ => rfl⟩
theorem Oth.trans {S'' : St} (h : Oth S S' i) (h' : Oth S' S'' i) : Oth S S'' i := ⟨fun f k j hf hk => (h'.1 f k j hf hk).trans (h.1 f k j hf hk), fun f k j hf => (h'.2 f k j hf).trans (h.2 f k j hf)⟩
end STEP
end
section
/-! A train rolls. -/
section ROLL
variable {S0 S S' : St} {b n i k r p : Nat}
theorem atEnd_f38 (h : S 38 k 0 = -1) : atEndF S k = false := decide_eq_false fun q => q.1 h
theorem atEnd_f40 (h : S 40 k 0 ≠ 0) : atEndF S k = false := decide_eq_false fun q => h q.2
theorem atEnd_t (h : S 38 k 0 ≠ -1) (h0 : S 40 k 0 = 0) : atEndF S k = true := decide_eq_true ⟨h, h0⟩
def Rld (b n : Nat) (S0 S S' : St) (i : Nat) : Prop := Inv b n S0 S' ∧ Oth S S' i ∧ ((Wt n S S' i ∧ atEndF S' i = true) ∨ (Nt S S' i ∧ atEndF S' i = false))
theorem rollC_ok (C : Stc S0 b n) (I : Inv b n S0 S) (hi : i < n) (O : On S0 S i r p) (hp : ¬ p + 1 < sC S0 r) (h0 : S 40 i 0 = 0) : Rld b n S0 S (comeF S i) i := by
  have F := I.1
  have hB := C.blk O.1 O.2.1
  obtain ⟨l, ls, hl27, hl, hls1, hls, hto⟩ := O.2.2.2.2.2
  have f11 : FT b n 11 (sB S0 r p) 0 := by unfold FT; omega
  have FU : Fr b n S0 (comeU S i (sB S0 r p) ls) := Fr_up (by unfold FT; omega) (Fr_up (by unfold FT; omega) (Fr_up (by unfold FT; omega) (Fr_up f11 F)))
  have oth : ∀ g v, 35 ≤ g → Oth S (up (comeU S i (sB S0 r p) ls) g i 0 v) i := fun g v hg => by
    refine ⟨fun f k j hf hk => ?_, fun f k j hf => ?_⟩
    · unfold comeU
      rw [up_k hk, up_k hk, up_k hk, up_k hk, up_f (by omega)]
    · unfold comeU
      rw [up_f (by omega), up_f (by omega), up_f (by omega), up_f (by omega), up_f (by omega)]
  have nt : ∀ g v, g < 43 → Nt S (up (comeU S i (sB S0 r p) ls) g i 0 v) i := fun g v hg f j hf => by
    unfold comeU
    rw [up_f (by omega), up_f (by omega), up_f (by omega), up_f (by omega), up_f (by omega)]
  have h11 : ∀ g v, 35 ≤ g → ∀ x, x < b → up (comeU S i (sB S0 r p) ls) g i 0 v 11 x 0 = if x = sB S0 r p then -1 else S 11 x 0 := fun g v hg x _ => by
    unfold comeU
    rw [up_f (by omega), up_f (by omega), up_f (by omega), up_f (by omega), up_11]
  have h12 : ∀ g v, 35 ≤ g → ∀ x, x < b → up (comeU S i (sB S0 r p) ls) g i 0 v 12 x 0 = S 12 x 0 := fun g v hg x _ => by
    unfold comeU
    rw [up_f (by omega), up_f (by omega), up_f (by omega), up_f (by omega), up_f (by omega)]
  have e38 : ∀ g v, g ≠ 38 → up (comeU S i (sB S0 r p) ls) g i 0 v 38 i 0 = -1 := fun g v hg => by
    unfold comeU
    rw [up_f (by omega), up_f (by omega), up_f (by omega), up_s]
  have e35 : ∀ g v, g ≠ 35 → up (comeU S i (sB S0 r p) ls) g i 0 v 35 i 0 = nI (ls + 1) := fun g v hg => by
    unfold comeU
    rw [up_f (by omega), up_f (by omega), up_s]
  have e36 : up (comeU S i (sB S0 r p) ls) 36 i 0 (S0 33 i (ls + 1)) 36 i 0 = S0 33 i (ls + 1) := up_s
  have e36' : ∀ v, up (comeU S i (sB S0 r p) ls) 42 i 0 v 36 i 0 = S 36 i 0 := fun v => by
    unfold comeU
    rw [up_f (by omega), up_f (by omega), up_f (by omega), up_f (by omega), up_f (by omega)]
  have e40 : ∀ g v, g ≠ 40 → up (comeU S i (sB S0 r p) ls) g i 0 v 40 i 0 = S 40 i 0 := fun g v hg => by
    unfold comeU
    rw [up_f (by omega), up_f (by omega), up_f (by omega), up_f (by omega), up_f (by omega)]
  rcases come_eq C F hi O hls hls1 with ⟨hl2, v, e⟩ | ⟨hl2, e⟩
  · rw [e]
    exact ⟨Inv.come C I (Fr_up (by unfold FT; omega) FU) hi O hp (fun k hk hn => (oth 42 v (by omega)).te hn) (h11 42 v (by omega)) (h12 42 v (by omega)) (Or.inr ⟨ls + 1, by omega, (e36' v).trans O.2.2.1, e38 42 v (by omega), (e40 42 v (by omega)).trans h0, e35 42 v (by omega)⟩), oth 42 v (by omega), Or.inr ⟨nt 42 v (by omega), atEnd_f38 (e38 42 v (by omega))⟩⟩
  · rw [e]
    obtain ⟨y, hy, hy2⟩ := C.to O.1
    exact ⟨Inv.come C I (Fr_up (by unfold FT; omega) FU) hi O hp (fun k hk hn => (oth 36 _ (by omega)).te hn) (h11 36 _ (by omega)) (h12 36 _ (by omega)) (Or.inl ⟨⟨y, ls + 1, hy, by omega, e36.trans (hto.trans hy2), e38 36 _ (by omega), (e40 36 _ (by omega)).trans h0, e35 36 _ (by omega), hto.trans hy2⟩, e36.trans hto⟩), oth 36 _ (by omega), Or.inr ⟨nt 36 _ (by omega), atEnd_f38 (e38 36 _ (by omega))⟩⟩
theorem ent_v (S : St) (i r p B : Nat) : (∀ x, entU S i r p B 11 x 0 = if x = B then nI i else S 11 x 0) ∧ (∀ x, entU S i r p B 12 x 0 = if x = B then -1 else S 12 x 0) ∧ entU S i r p B 36 i 0 = -1 ∧ entU S i r p B 38 i 0 = nI r ∧ entU S i r p B 39 i 0 = nI p ∧ entU S i r p B 40 i 0 = S 10 B 0 * S 31 i 0 ∧ (∀ f k j, f ≠ 11 → f ≠ 12 → (k ≠ i ∨ (f ≠ 36 ∧ f ≠ 38 ∧ f ≠ 39 ∧ f ≠ 40)) → entU S i r p B f k j = S f k j) := by
  unfold entU
  refine ⟨fun x => ?_, fun x => ?_, ?_, ?_, ?_, ?_, fun f k j h1 h2 h3 => ?_⟩
  · rw [up_f (by decide), up_11, up_f (by decide), up_f (by decide), up_f (by decide), up_f (by decide)]
  · rw [up_12, up_f (by decide), up_f (by decide), up_f (by decide), up_f (by decide), up_f (by decide)]
  · rw [up_f (by decide), up_f (by decide), up_f (by decide), up_f (by decide), up_f (by decide), up_s]
  · rw [up_f (by decide), up_f (by decide), up_f (by decide), up_f (by decide), up_s]
  · rw [up_f (by decide), up_f (by decide), up_f (by decide), up_s]
  · rw [up_f (by decide), up_f (by decide), up_s]
  · rw [up_f h2, up_f h1]
    rcases h3 with h3 | ⟨a, b, c, d⟩
    · rw [up_k h3, up_k h3, up_k h3, up_k h3]
    · rw [up_f d, up_f c, up_f b, up_f a]
theorem Fr_ent (F : Fr b n S0 S) (hi : i < n) {B : Nat} (hB : B < b) : Fr b n S0 (entU S i r p B) := Fr_up (by unfold FT; omega) (Fr_up (by unfold FT; omega) (Fr_up (by unfold FT; omega) (Fr_up (by unfold FT; omega) (Fr_up (by unfold FT; omega) (Fr_up (by unfold FT; omega) F)))))
theorem rollG_ok (C : Stc S0 b n) (I : Inv b n S0 S) (hi : i < n) (O : On S0 S i r p) (hp : p + 1 < sC S0 r) (hc : S 11 (sB S0 r (p + 1)) 0 = -1) : Rld b n S0 S (enterF (leaveF S i) i (nI r) (nI (p + 1))) i := by
  have F := I.1
  have hB := C.blk O.1 O.2.1
  have hC := C.blk O.1 hp
  obtain ⟨l, ls, hl27, hl, hls1, hls, hto⟩ := O.2.2.2.2.2
  have F2 : Fr b n S0 (up S 11 (sB S0 r p) 0 (-1)) := Fr_up (by unfold FT; omega) F
  rw [leave_on C F O, enter_eq C F2 O.1 hp]
  obtain ⟨v11, v12, v36, v38, v39, v40, vo⟩ := ent_v (up S 11 (sB S0 r p) 0 (-1)) i r (p + 1) (sB S0 r (p + 1))
  obtain ⟨l2, h1, h27, hl2⟩ := C.len hi hC.2
  have e40 : entU (up S 11 (sB S0 r p) 0 (-1)) i r (p + 1) (sB S0 r (p + 1)) 40 i 0 = nI l2 := by
    rw [v40, up_f (by decide), up_f (by decide), F.st (f := 10) (by decide), F.st (f := 31) (by decide)]
    exact hl2
  have oth : Oth S (entU (up S 11 (sB S0 r p) 0 (-1)) i r (p + 1) (sB S0 r (p + 1))) i := ⟨fun f k j hf hk => by rw [vo f k j (by omega) (by omega) (Or.inl hk), up_f (by omega)], fun f k j hf => by rw [vo f k j (by omega) (by omega) (Or.inr (by omega)), up_f (by omega)]⟩
  have O' : On S0 (entU (up S 11 (sB S0 r p) 0 (-1)) i r (p + 1) (sB S0 r (p + 1))) i r (p + 1) := ⟨O.1, hp, v36, v38, v39, l2, ls, h27, e40, hls1, by rw [vo 35 i 0 (by omega) (by omega) (Or.inr (by omega)), up_f (by omega)]; exact hls, hto⟩
  refine ⟨Inv.go C I (Fr_ent F2 hi hC.2) hi O O' (fun k hk hn => oth.te hn) hc (fun x _ => by rw [v11, up_11]) (fun x _ => by rw [v12, up_f (by decide)]), oth, Or.inr ⟨fun f j hf => by rw [vo f i j (by omega) (by omega) (Or.inr (by omega)), up_f (by omega)], atEnd_f40 (by rw [e40]; exact nI_ne0 (by omega) (by omega))⟩⟩
theorem rollW_ok (C : Stc S0 b n) (I : Inv b n S0 S) (hi : i < n) (O : On S0 S i r p) (hp : p + 1 < sC S0 r) (h0 : S 40 i 0 = 0) : Rld b n S0 S (waitF S i (inWayF S (nI (sB S0 r (p + 1))) (nI i))) i := by
  have hC := C.blk O.1 hp
  have hn5 := C.n5
  have hne : S 11 (sB S0 r (p + 1)) 0 ≠ nI i := fun e => by
    rcases I.2.2.2.1 _ hC.2 with h | ⟨k, r', p', hk, o, q⟩
    · exact m1_ne (by omega) (e.symm.trans h)
    · have h2 := I.2.2.1 k r' p' hk o
      rw [q, e] at h2
      have hki : i = k := nI_inj (by omega) (by omega) h2
      subst hki
      obtain ⟨rfl, rfl⟩ := O.uq o
      have := C.inj O.1 O.2.1 hp q
      omega
  exact ⟨I.wait C hi _, Oth_wait, Or.inl ⟨Wt_wait (inWay_ok C I hC.2 hne), atEnd_t (by rw [wait_ne (Or.inl (by omega))]; exact O.n38) (by rw [wait_ne (Or.inl (by omega))]; exact h0)⟩⟩
theorem rollT_ok (C : Stc S0 b n) (I : Inv b n S0 S) (hi : i < n) (O : On S0 S i r p) (h0 : S 40 i 0 = 0) : Rld b n S0 S (rollT S i) i := by
  have F := I.1
  have hcnt := C.cnt O.1
  unfold rollT
  rw [h0, O.2.2.2.1, O.2.2.2.2.1, F.st (f := 4) (by decide), C.f4, nI_clamp (by have := O.1; omega), F.st (f := 23) (by decide), hcnt.1, nI_1, if_neg (by decide), if_neg (nI_pos (by have := O.1; omega)), if_neg (not_not_intro (nI_lt O.1 (by omega)))]
  by_cases hp : p + 1 < sC S0 r
  · rw [if_neg (not_not_intro (nI_lt hp (by omega))), bAt C F O.1 hp]
    by_cases hc : clearF S (nI (sB S0 r (p + 1))) (nI i) = true
    · rw [if_pos hc]
      rw [clear_eq C F (C.blk O.1 hp).2] at hc
      have hc := of_decide_eq_true hc
      have e : leaveF S i 38 i 0 = nI r := by rw [leave_on C F O, up_f (by decide)]; exact O.2.2.2.1
      rw [e]
      exact rollG_ok C I hi O hp hc.2.1
    · rw [if_neg hc]
      exact rollW_ok C I hi O hp h0
  · rw [if_pos (nI_nlt (by omega) (by have := O.2.1; omega))]
    exact rollC_ok C I hi O hp h0
theorem Rld.from {S1 : St} (o1 : Oth S S1 i) (n1 : Nt S S1 i) (h : Rld b n S0 S1 S' i) : Rld b n S0 S S' i := by
  refine ⟨h.1, o1.trans h.2.1, h.2.2.imp (fun q => ⟨?_, q.2⟩) (fun q => ⟨fun f j hf => (q.1 f j hf).trans (n1 f j hf), q.2⟩)⟩
  obtain ⟨⟨o, ho, e⟩, -⟩ := q
  exact ⟨o, ho, fun f j hf => (e f j hf).trans (wait_cg n1 hf)⟩
theorem roll_ok (C : Stc S0 b n) (I : Inv b n S0 S) (hi : i < n) (O : On S0 S i r p) : Rld b n S0 S (rollF S i) i := by
  obtain ⟨l, ls, hl27, hl, hls1, hls, hto⟩ := O.2.2.2.2.2
  have F := I.1
  unfold rollF
  by_cases h0 : l = 0
  · subst h0
    rw [hl, if_pos (by decide)]
    exact rollT_ok C I hi O hl
  · have e1 : nI l - 1 = nI (l - 1) := by
      have := nI_pred (l - 1)
      rw [show l - 1 + 1 = l by omega] at this
      exact this
    rw [hl, if_neg (nI_nle (by omega) (by omega)), e1]
    have F1 : Fr b n S0 (up S 40 i 0 (nI (l - 1))) := Fr_up (by unfold FT; omega) F
    have te : ∀ k, k < n → TE S (up S 40 i 0 (nI (l - 1))) k := fun k _ => by
      by_cases hk : k = i
      · subst hk
        exact ⟨up_f (by decide), up_f (by decide), up_f (by decide), up_f (by decide), Or.inr ⟨O.n38, l - 1, by omega, up_s⟩⟩
      · exact ⟨up_f (by decide), up_f (by decide), up_f (by decide), up_f (by decide), Or.inl (up_k hk)⟩
    have I1 : Inv b n S0 (up S 40 i 0 (nI (l - 1))) := I.stay F1 te (fun x _ => up_f (by decide)) (fun x _ => up_f (by decide)) C
    have o1 : Oth S (up S 40 i 0 (nI (l - 1))) i := ⟨fun f k j _ hk => up_k hk, fun f k j hf => up_f (by omega)⟩
    have n1 : Nt S (up S 40 i 0 (nI (l - 1))) i := fun f j hf => up_f (by omega)
    by_cases h1 : l = 1
    · subst h1
      exact (rollT_ok C I1 hi (O.te (te i hi)) up_s).from o1 n1
    · have e : rollT (up S 40 i 0 (nI (l - 1))) i = up S 40 i 0 (nI (l - 1)) := by
        unfold rollT
        rw [up_s]
        exact if_pos (nI_lt (a := 0) (by omega) (by omega))
      rw [e]
      exact ⟨I1, o1, Or.inr ⟨n1, atEnd_f40 (by rw [up_s]; exact nI_ne0 (by omega) (by omega))⟩⟩
end ROLL
end
section
/-! A train sets out, or waits. -/
section TURN
variable {S0 S S' : St} {b n i k r p : Nat}
theorem fnc_spec (C : Stc S0 b n) (F : Fr b n S0 S) (hr : r < 8) (x : Int32) : ∀ m j0 : Nat, j0 + m ≤ sC S0 r → (fncL S r x m j0 = -1 ∧ ∀ j, j0 ≤ j → j < j0 + m → clearF S (nI (sB S0 r j)) x = true) ∨ ∃ j, j < sC S0 r ∧ fncL S r x m j0 = nI (sB S0 r j)
  | 0, j0, _ => Or.inl ⟨rfl, fun j h1 h2 => absurd h2 (by omega)⟩
  | m + 1, j0, h => by
    unfold fncL
    rw [bAt C F hr (by omega)]
    by_cases hc : clearF S (nI (sB S0 r j0)) x = true
    · rw [if_pos hc]
      rcases fnc_spec C F hr x m (j0 + 1) (by omega) with ⟨h1, h2⟩ | h1
      · refine Or.inl ⟨h1, fun j a1 a2 => ?_⟩
        by_cases e : j = j0
        · rw [e]; exact hc
        · exact h2 j (by omega) (by omega)
      · exact Or.inr h1
    · rw [if_neg hc]
      exact Or.inr ⟨j0, by omega, rfl⟩
theorem toClear_v (C : Stc S0 b n) (F : Fr b n S0 S) (hr : r < 8) : (toClearF S r).toNatClampNeg = if S0 22 r 0 = 0 then 1 else sC S0 r := by
  have h := C.cnt hr
  unfold toClearF
  rw [F.st (f := 22) (by decide), F.st (f := 23) (by decide), h.1]
  split
  · rfl
  · exact nI_clamp (by omega)
theorem fncF_spec (C : Stc S0 b n) (F : Fr b n S0 S) (hr : r < 8) (x : Int32) : (fncF S r x = -1 ∧ ∀ j, (j = 0 ∨ S0 22 r 0 = 1) → j < sC S0 r → clearF S (nI (sB S0 r j)) x = true) ∨ ∃ j, j < sC S0 r ∧ fncF S r x = nI (sB S0 r j) := by
  have h := C.cnt hr
  have hv := toClear_v C F hr
  unfold fncF
  have hm : 0 + (toClearF S r).toNatClampNeg ≤ sC S0 r := by rw [hv]; split <;> omega
  rcases fnc_spec C F hr x _ 0 hm with ⟨h1, h2⟩ | h1
  · refine Or.inl ⟨h1, fun j hj hj2 => h2 j (by omega) ?_⟩
    rw [hv]
    rcases hj with rfl | hj
    · split <;> omega
    · rw [hj, if_neg (by decide)]; omega
  · exact Or.inr h1
theorem notHeld (C : Stc S0 b n) (I : Inv b n S0 S) (hi : i < n) (h38 : S 38 i 0 = -1) {x : Nat} (hx : x < b) : S 11 x 0 ≠ nI i := fun e => by
  have := C.n5
  rcases I.2.2.2.1 x hx with h | ⟨k, r, p, hk, o, q⟩
  · exact m1_ne (by omega) (e.symm.trans h)
  · have h2 := I.2.2.1 k r p hk o
    rw [q, e] at h2
    have hki : i = k := nI_inj (by omega) (by omega) h2
    subst hki
    exact o.n38 h38
theorem blame_ok (C : Stc S0 b n) (I : Inv b n S0 S) (hi : i < n) (h38 : S 38 i 0 = -1) (hr : r < 8) : blameF S r (nI i) = -1 ∨ ∃ q, q < n ∧ q ≠ i ∧ blameF S r (nI i) = nI q := by
  unfold blameF
  rcases fncF_spec C I.1 hr (nI i) with ⟨h, -⟩ | ⟨j, hj, h⟩
  · rw [h]
    exact Or.inl (if_pos (by decide))
  · rw [h]
    exact inWay_ok C I (C.blk hr hj).2 (notHeld C I hi h38 (C.blk hr hj).2)
theorem room_v (C : Stc S0 b n) (F : Fr b n S0 S) {y : Nat} (hy : y < 6) : hasRoomF S (nI y) = true ↔ cntTo (atQ S (nI y)) n + cntTo (wayQ S (nI y)) n < 2 := by
  have h1 := cnt_le (atQ S (nI y)) n
  have h2 := cnt_le (wayQ S (nI y)) n
  have h5 := C.n5
  unfold hasRoomF
  rw [if_neg (nI_pos (by omega)), if_neg (show ¬ (6 : Int32) ≤ nI y from le_no (a := 6) (by omega) (by omega)), nI_clamp (by omega), nT_F C F, F.st (f := 0) (by decide), C.pl hy, nI_add]
  constructor
  · intro h
    have h := of_decide_eq_true h
    exact Nat.not_le.mp fun q => h (nI_le (a := 2) q (by omega))
  · intro h
    exact decide_eq_true (show ¬ (2 : Int32) ≤ _ from le_no (a := 2) h (by omega))
theorem open_spec (C : Stc S0 b n) (F : Fr b n S0 S) (hr : r < 8) (ho : openF S r (nI i) = true) : (∀ j, (j = 0 ∨ S0 22 r 0 = 1) → j < sC S0 r → clearF S (nI (sB S0 r j)) (nI i) = true) ∧ ∀ y, y < 6 → S0 21 r 0 = nI y → cntTo (atQ S (nI y)) n + cntTo (wayQ S (nI y)) n < 2 := by
  unfold openF at ho
  rw [Bool.and_eq_true] at ho
  obtain ⟨h1, h2⟩ := ho
  have h2 := of_decide_eq_true h2
  refine ⟨?_, fun y hy e => ?_⟩
  · rcases fncF_spec C F hr (nI i) with ⟨-, h⟩ | ⟨j, hj, h⟩
    · exact h
    · have := C.b16
      have := (C.blk hr hj).2
      rw [h2] at h
      exact absurd h.symm (m1_ne (by omega))
  · rw [F.st (f := 21) (by decide), e] at h1
    exact (room_v C F hy).mp h1
theorem pred_v {m : Nat} (h : 1 ≤ m) : nI m - 1 = nI (m - 1) := by
  have := nI_pred (m - 1)
  rw [show m - 1 + 1 = m by omega] at this
  exact this
theorem last_v (C : Stc S0 b n) (F : Fr b n S0 S) (hi : i < n) {ls : Nat} (hls : S 35 i 0 = nI ls) (h8 : ls < 8) : lastF S i = false ↔ ls + 1 < sP S0 i := by
  have h := C.stp hi
  unfold lastF
  rw [hls, F.st (f := 32) (by decide), h.1, pred_v h.2.1]
  constructor
  · intro q
    have q := of_decide_eq_false q
    exact Nat.not_le.mp fun w => q (nI_nlt (by omega) (by omega))
  · intro q
    exact decide_eq_false (not_not_intro (nI_lt (by omega) (by omega)))
theorem leads_v (C : Stc S0 b n) (F : Fr b n S0 S) (hi : i < n) {ls : Nat} (hls : S 35 i 0 = nI ls) (hl : ls + 1 < sP S0 i) (h : leadsF S r i = true) : S0 33 i (ls + 1) = S0 21 r 0 := by
  have hs := C.stp hi
  unfold leadsF joinsF stationF at h
  have h := (of_decide_eq_true h).2
  rw [hls, nI_1, if_neg (nI_pos (by omega)), if_neg (show ¬ (8 : Int32) ≤ nI (ls + 1) from le_no (a := 8) (by omega) (by omega)), nI_clamp (by omega), F.st (f := 21) (by decide), F.st (f := 33) (by decide)] at h
  exact h.symm
theorem lockI_v (C : Stc S0 b n) (F : Fr b n S0 S) (hi : i < n) (hr : r < 8) : ∀ m : Nat, m + 1 ≤ sC S0 r → Fr b n S0 (lockI S i r m) ∧ ∀ x, lockI S i r m 12 x 0 = S 12 x 0 ∨ ∃ j, 0 < j ∧ j < m + 1 ∧ sB S0 r j = x ∧ lockI S i r m 12 x 0 = nI i
  | 0, _ => ⟨F, fun _ => Or.inl rfl⟩
  | m + 1, h => by
    obtain ⟨h1, h2⟩ := lockI_v C F hi hr m (by omega)
    have hb := C.blk hr (show m + 1 < sC S0 r by omega)
    have := C.b16
    have e : lockI S i r (m + 1) = up (lockI S i r m) 12 (sB S0 r (m + 1)) 0 (nI i) := by
      show (if blockAtF S r (nI (m + 1)) < 0 then lockI S i r m else if S 2 0 0 ≤ blockAtF S r (nI (m + 1)) then lockI S i r m else up (lockI S i r m) 12 (blockAtF S r (nI (m + 1))).toNatClampNeg 0 (nI i)) = _
      rw [bAt C F hr (by omega), F.st (f := 2) (by decide), C.f2, if_neg (nI_pos (by omega)), if_neg (le_no hb.2 (by omega)), nI_clamp (by omega)]
    rw [e]
    refine ⟨Fr_up (by unfold FT; omega) h1, fun x => ?_⟩
    rw [up_12]
    by_cases hx : x = sB S0 r (m + 1)
    · rw [if_pos hx]
      exact Or.inr ⟨m + 1, by omega, by omega, hx.symm, rfl⟩
    · rw [if_neg hx]
      rcases h2 x with h | ⟨j, a1, a2, a3, a4⟩
      · exact Or.inl h
      · exact Or.inr ⟨j, a1, by omega, a3, a4⟩
theorem ready_at (h : readyF S i = true) : S 36 i 0 ≠ -1 ∧ lastF S i = false := by
  unfold readyF atStF at h
  rw [Bool.and_eq_true, Bool.and_eq_true] at h
  refine ⟨of_decide_eq_true h.1, ?_⟩
  cases hl : lastF S i
  · rfl
  · rw [hl] at h; exact absurd h.2.1 (by decide)
theorem ready_cg (h1 : ∀ f j, 30 ≤ f → f < 43 → S' f k j = S f k j) (h2 : ∀ f k j, f < 10 → S' f k j = S f k j) : readyF S' k = readyF S k := by
  unfold readyF atStF lastF timeF
  rw [h1 36 0 (by omega) (by omega), h1 35 0 (by omega) (by omega), h1 32 0 (by omega) (by omega), h1 34 _ (by omega) (by omega), h1 37 0 (by omega) (by omega), h1 41 0 (by omega) (by omega), h2 9 0 0 (by omega), h2 8 0 0 (by omega)]
theorem ready_no (h : S 36 i 0 = -1) : readyF S i = false := by
  unfold readyF atStF
  rw [h]
  rfl
def Trn (b n : Nat) (S0 S S' : St) (i : Nat) : Prop := Inv b n S0 S' ∧ Oth S S' i ∧ ((Wt n S S' i ∧ readyF S' i = readyF S i) ∨ (Nt S S' i ∧ readyF S' i = false ∧ atEndF S' i = false))
theorem setOut_ok (C : Stc S0 b n) (I : Inv b n S0 S) (hi : i < n) (A : AtS S0 S i) (hnl : lastF S i = false) (hr : r < 8) (hl : leadsF S r i = true) (ho : openF S r (nI i) = true) : Trn b n S0 S (setOutF S i r) i := by
  have F := I.1
  have hcnt := C.cnt hr
  have h0c : 0 < sC S0 r := by omega
  have hB := C.blk hr h0c
  obtain ⟨x, ls, hx, hlsP, h36, h38, h40, h35, h33⟩ := id A
  have hls1 : ls + 1 < sP S0 i := (last_v C F hi h35 (by have := (C.stp hi).2.2; omega)).mp hnl
  have hto := leads_v C F hi h35 hls1 hl
  obtain ⟨hclr, hroom⟩ := open_spec C F hr ho
  have F1 : Fr b n S0 (beLateF S i (S 9 0 0)) := Fr_up (by unfold FT; omega) F
  have hent : enterF (beLateF S i (S 9 0 0)) i (nI r) 0 = entU (beLateF S i (S 9 0 0)) i r 0 (sB S0 r 0) := enter_eq C F1 hr h0c
  obtain ⟨v11, v12, v36, v38, v39, v40, vo⟩ := ent_v (beLateF S i (S 9 0 0)) i r 0 (sB S0 r 0)
  have F2 := Fr_ent (r := r) (p := 0) F1 hi hB.2
  obtain ⟨l2, hl1, hl27, hlv⟩ := C.len hi hB.2
  have c0 : S 11 (sB S0 r 0) 0 = -1 := by
    have h := hclr 0 (Or.inl rfl) h0c
    rw [clear_eq C F hB.2] at h
    exact (of_decide_eq_true h).2.1
  have cw : ∀ j, S0 22 r 0 = 1 → j < sC S0 r → S 11 (sB S0 r j) 0 = -1 := fun j hw hj => by
    have h := hclr j (Or.inr hw) hj
    rw [clear_eq C F (C.blk hr hj).2] at h
    exact (of_decide_eq_true h).2.1
  generalize hS2 : entU (beLateF S i (S 9 0 0)) i r 0 (sB S0 r 0) = S2 at *
  have bl : ∀ f k j, f ≠ 42 → beLateF S i (S 9 0 0) f k j = S f k j := fun f k j hf => up_f hf
  have w0 := C.wh hr
  have e22 : S2 22 r 0 = S0 22 r 0 := F2.st (by decide) r 0
  -- the end, for any state that differs from S2 in the locks alone
  have fin : ∀ S3 : St, Fr b n S0 S3 → (∀ f k j, f ≠ 12 → S3 f k j = S2 f k j) → (∀ x, S3 12 x 0 = S2 12 x 0 ∨ (S0 22 r 0 = 1 ∧ S3 12 x 0 = nI i ∧ ∃ j, 0 < j ∧ j < sC S0 r ∧ sB S0 r j = x)) → Trn b n S0 S S3 i := by
    intro S3 F3 q1 q2
    have oth : Oth S S3 i := ⟨fun f k j hf hk => by rw [q1 f k j (by omega), vo f k j (by omega) (by omega) (Or.inl hk)]; exact up_k hk, fun f k j hf => by rw [q1 f k j (by omega), vo f k j (by omega) (by omega) (Or.inr (by omega)), bl f k j (by omega)]⟩
    have e40 : S3 40 i 0 = nI l2 := by
      rw [q1 40 i 0 (by omega), v40, bl _ _ _ (by omega), bl _ _ _ (by omega), F.st (f := 10) (by decide), F.st (f := 31) (by decide)]
      exact hlv
    have e36 : S3 36 i 0 = -1 := (q1 36 i 0 (by omega)).trans v36
    have O' : On S0 S3 i r 0 := ⟨hr, h0c, e36, (q1 38 i 0 (by omega)).trans v38, (q1 39 i 0 (by omega)).trans v39, l2, ls, hl27, e40, hls1, by rw [q1 35 i 0 (by omega), vo 35 i 0 (by omega) (by omega) (Or.inr (by omega)), bl _ _ _ (by omega)]; exact h35, hto⟩
    refine ⟨Inv.out C I F3 hi A O' (fun k hk hn => oth.te hn) c0 cw (fun x _ => by rw [q1 11 x 0 (by omega), v11, bl _ _ _ (by omega)]) (fun x _ => ⟨fun hx => ?_, fun hx => ?_⟩) hroom, oth, Or.inr ⟨fun f j hf => by rw [q1 f i j (by omega), vo f i j (by omega) (by omega) (Or.inr (by omega)), bl _ _ _ (by omega)], ready_no e36, atEnd_f40 (by rw [e40]; exact nI_ne0 (by omega) (by omega))⟩⟩
    · rcases q2 x with h | ⟨_, _, j, j0, j1, j2⟩
      · rw [h, v12, if_pos hx]
      · have := C.inj hr j1 h0c (j2.trans hx)
        omega
    · rcases q2 x with h | h
      · exact Or.inl (by rw [h, v12, if_neg hx, bl _ _ _ (by omega)])
      · exact Or.inr h
  unfold setOutF setOutT
  rw [hent, e22]
  by_cases hw : S0 22 r 0 = 0
  · rw [if_pos hw]
    exact fin S2 F2 (fun _ _ _ _ => rfl) (fun _ => Or.inl rfl)
  · rw [if_neg hw]
    have hw1 : S0 22 r 0 = 1 := w0.resolve_left hw
    have e : lockF S2 i r = lockI S2 i r (sC S0 r - 1) := by
      unfold lockF lockI
      rw [F2.st (f := 23) (by decide), hcnt.1, nI_clamp (by omega)]
    rw [e]
    obtain ⟨L1, L2⟩ := lockI_v C F2 hi hr (sC S0 r - 1) (by omega)
    refine fin _ L1 (fun f k j hf => lockI_ne hf k j _) (fun x => ?_)
    rcases L2 x with h | ⟨j, a1, a2, a3, a4⟩
    · exact Or.inl h
    · exact Or.inr ⟨hw1, a4, j, a1, by omega, a3⟩
theorem turn_out (S : St) (i : Nat) : ∀ (m r : Nat) (f : Int32), r + m = 8 → (f = -1 ∨ ∃ r', r' < 8 ∧ f = nI r') → (∃ r', r' < 8 ∧ leadsF S r' i = true ∧ openF S r' (nI i) = true ∧ turnL S i m r f = setOutF S i r') ∨ ∃ o, (o = -1 ∨ ∃ r', r' < 8 ∧ o = blameF S r' (nI i)) ∧ turnL S i m r f = waitF S i o
  | 0, r, f, _, hf => by
    refine Or.inr ⟨_, ?_, rfl⟩
    rcases hf with rfl | ⟨r', h, rfl⟩
    · exact Or.inl (if_pos rfl)
    · exact Or.inr ⟨r', h, by rw [if_neg (m1_ne (by omega)), nI_clamp (by omega)]⟩
  | m + 1, r, f, hm, hf => by
    unfold turnL
    by_cases hl : leadsF S r i = true
    · rw [if_pos hl]
      by_cases ho : openF S r (nI i) = true
      · rw [if_pos ho]
        exact Or.inl ⟨r, by omega, hl, ho, rfl⟩
      · rw [if_neg ho]
        refine turn_out S i m (r + 1) _ (by omega) ?_
        split
        · exact Or.inr ⟨r, by omega, rfl⟩
        · exact hf
    · rw [if_neg hl]
      exact turn_out S i m (r + 1) f (by omega) hf
theorem turn_ok (C : Stc S0 b n) (I : Inv b n S0 S) (hi : i < n) (hr : readyF S i = true) : Trn b n S0 S (turnF S i) i := by
  obtain ⟨h36, hnl⟩ := ready_at hr
  have A : AtS S0 S i := by
    rcases I.2.1 i hi with h | ⟨r, p, h⟩ | h
    · exact h
    · exact absurd h.2.2.1 h36
    · exact absurd h.e36 h36
  unfold turnF
  rw [nR_F C I.1]
  rcases turn_out S i 8 0 (-1) (by omega) (Or.inl rfl) with ⟨r, hr8, hl, ho, e⟩ | ⟨o, ho, e⟩
  · rw [e]
    exact setOut_ok C I hi A hnl hr8 hl ho
  · rw [e]
    have hW : o = -1 ∨ ∃ q, q < n ∧ q ≠ i ∧ o = nI q := by
      rcases ho with h | ⟨r, hr8, h⟩
      · exact Or.inl h
      · rw [h]
        exact blame_ok C I hi A.e38 hr8
    exact ⟨I.wait C hi o, Oth_wait, Or.inl ⟨Wt_wait hW, ready_cg (fun f j _ h => wait_ne (Or.inl h)) (fun f k j h => wait_ne (Or.inl (by omega)))⟩⟩
end TURN
end
