-- ===== PART A: goes FIRST, ahead of the names: the tables' words, and 'selects' of the private methods out of them =====
/-- a private method of a class that the tables say can be made, by its rows of tables_1 -/
def lw_okq (q : MethodName × Nat) : Prop := (q.1.cls ≠ "java/lang/invoke/MethodHandle" ∧ q.1.cls ≠ "java/lang/invoke/VarHandle") ∧ Cond.instantiable q.1.cls q.2 ∈ tables_1 ∧ Cond.privateMethod q.1 ∈ tables_1 ∧ Cond.instanceMethod q.1 ∈ tables_1
theorem lw_p0 : lw_okq (⟨"FlashWheelReader$History", "slotAt", "(I)LFlashWheelReader$State;"⟩, 3) := ⟨⟨by decide +kernel, by decide +kernel⟩, List.mem_of_getElem? (i := 147) (by decide +kernel), List.mem_of_getElem? (i := 245) (by decide +kernel), List.mem_of_getElem? (i := 246) (by decide +kernel)⟩
theorem lw_p1 : lw_okq (⟨"FlashWheelReader", "isFlash", "(I)Z"⟩, 5) := ⟨⟨by decide +kernel, by decide +kernel⟩, List.mem_of_getElem? (i := 13) (by decide +kernel), List.mem_of_getElem? (i := 284) (by decide +kernel), List.mem_of_getElem? (i := 285) (by decide +kernel)⟩
theorem lw_p2 : lw_okq (⟨"FlashWheelReader", "addReading", "(II)I"⟩, 5) := ⟨⟨by decide +kernel, by decide +kernel⟩, List.mem_of_getElem? (i := 13) (by decide +kernel), List.mem_of_getElem? (i := 338) (by decide +kernel), List.mem_of_getElem? (i := 339) (by decide +kernel)⟩
theorem lw_p3 : lw_okq (⟨"FlashWheelReader", "isReading", "(I)Z"⟩, 5) := ⟨⟨by decide +kernel, by decide +kernel⟩, List.mem_of_getElem? (i := 13) (by decide +kernel), List.mem_of_getElem? (i := 356) (by decide +kernel), List.mem_of_getElem? (i := 357) (by decide +kernel)⟩
theorem lw_p4 : lw_okq (⟨"FlashWheelReader", "findWithout", "(I)LFlashWheelReader$Candidates;"⟩, 5) := ⟨⟨by decide +kernel, by decide +kernel⟩, List.mem_of_getElem? (i := 13) (by decide +kernel), List.mem_of_getElem? (i := 361) (by decide +kernel), List.mem_of_getElem? (i := 362) (by decide +kernel)⟩
theorem lw_p5 : lw_okq (⟨"FlashWheelReader$WheelText", "readCells", "(LFlashWheelReader$Wheel;)V"⟩, 5) := ⟨⟨by decide +kernel, by decide +kernel⟩, List.mem_of_getElem? (i := 167) (by decide +kernel), List.mem_of_getElem? (i := 468) (by decide +kernel), List.mem_of_getElem? (i := 469) (by decide +kernel)⟩
theorem lw_p6 : lw_okq (⟨"FlashWheelReader$WheelText", "code", "()I"⟩, 5) := ⟨⟨by decide +kernel, by decide +kernel⟩, List.mem_of_getElem? (i := 167) (by decide +kernel), List.mem_of_getElem? (i := 472) (by decide +kernel), List.mem_of_getElem? (i := 473) (by decide +kernel)⟩
theorem lw_p7 : lw_okq (⟨"FlashWheelReader$WheelText", "tellFault", "(II)V"⟩, 5) := ⟨⟨by decide +kernel, by decide +kernel⟩, List.mem_of_getElem? (i := 167) (by decide +kernel), List.mem_of_getElem? (i := 485) (by decide +kernel), List.mem_of_getElem? (i := 486) (by decide +kernel)⟩
theorem lw_p8 : lw_okq (⟨"FlashWheelReader$WheelText", "takes", "(I)Z"⟩, 5) := ⟨⟨by decide +kernel, by decide +kernel⟩, List.mem_of_getElem? (i := 167) (by decide +kernel), List.mem_of_getElem? (i := 489) (by decide +kernel), List.mem_of_getElem? (i := 490) (by decide +kernel)⟩
theorem lw_p9 : lw_okq (⟨"FlashWheelReader$WheelText", "readNumber", "(II)I"⟩, 5) := ⟨⟨by decide +kernel, by decide +kernel⟩, List.mem_of_getElem? (i := 167) (by decide +kernel), List.mem_of_getElem? (i := 493) (by decide +kernel), List.mem_of_getElem? (i := 494) (by decide +kernel)⟩
theorem lw_p10 : lw_okq (⟨"FlashWheelReader$WheelText", "readSpeed", "()I"⟩, 5) := ⟨⟨by decide +kernel, by decide +kernel⟩, List.mem_of_getElem? (i := 167) (by decide +kernel), List.mem_of_getElem? (i := 500) (by decide +kernel), List.mem_of_getElem? (i := 501) (by decide +kernel)⟩
theorem lw_p11 : lw_okq (⟨"FlashWheelReader", "isPlace", "(I)Z"⟩, 5) := ⟨⟨by decide +kernel, by decide +kernel⟩, List.mem_of_getElem? (i := 13) (by decide +kernel), List.mem_of_getElem? (i := 551) (by decide +kernel), List.mem_of_getElem? (i := 552) (by decide +kernel)⟩
def lw_privs_1 : List (MethodName × Nat) := [(⟨"FlashWheelReader$History", "slotAt", "(I)LFlashWheelReader$State;"⟩, 3), (⟨"FlashWheelReader", "isFlash", "(I)Z"⟩, 5), (⟨"FlashWheelReader", "addReading", "(II)I"⟩, 5), (⟨"FlashWheelReader", "isReading", "(I)Z"⟩, 5), (⟨"FlashWheelReader", "findWithout", "(I)LFlashWheelReader$Candidates;"⟩, 5), (⟨"FlashWheelReader$WheelText", "readCells", "(LFlashWheelReader$Wheel;)V"⟩, 5), (⟨"FlashWheelReader$WheelText", "code", "()I"⟩, 5), (⟨"FlashWheelReader$WheelText", "tellFault", "(II)V"⟩, 5), (⟨"FlashWheelReader$WheelText", "takes", "(I)Z"⟩, 5), (⟨"FlashWheelReader$WheelText", "readNumber", "(II)I"⟩, 5), (⟨"FlashWheelReader$WheelText", "readSpeed", "()I"⟩, 5), (⟨"FlashWheelReader", "isPlace", "(I)Z"⟩, 5)]
theorem lw_r1 : ∀ q ∈ lw_privs_1, lw_okq q := List.forall_mem_cons.mpr ⟨lw_p0, List.forall_mem_cons.mpr ⟨lw_p1, List.forall_mem_cons.mpr ⟨lw_p2, List.forall_mem_cons.mpr ⟨lw_p3, List.forall_mem_cons.mpr ⟨lw_p4, List.forall_mem_cons.mpr ⟨lw_p5, List.forall_mem_cons.mpr ⟨lw_p6, List.forall_mem_cons.mpr ⟨lw_p7, List.forall_mem_cons.mpr ⟨lw_p8, List.forall_mem_cons.mpr ⟨lw_p9, List.forall_mem_cons.mpr ⟨lw_p10, List.forall_mem_cons.mpr ⟨lw_p11, fun _ h => absurd h List.not_mem_nil⟩⟩⟩⟩⟩⟩⟩⟩⟩⟩⟩⟩
def lw_privs : List (MethodName × Nat) := lw_privs_1
def lw_tbl : List Cond := k2_sels lw_privs ++ tables_1
theorem lw_privs_ok : ∀ q ∈ lw_privs, lw_okq q := lw_r1
def RX0 : String := "FlashWheelReader$Candidates"
def TX0 : u_T := fun k => match k with
  | 0 => ("FlashWheelReader$Candidates", "byRemainder", "[I", true)
  | 1 => ("FlashWheelReader$Candidates", "classes", "[I", true)
  | 2 => ("FlashWheelReader$Candidates", "measure", "I", false)
  | 3 => ("FlashWheelReader$Candidates", "limit", "I", false)
  | _ => ("FlashWheelReader$Candidates", "fitting", "J", false)
def tyX0 : Nat → FieldType := fun k => match k with
  | 0 => .array .int
  | 1 => .array .int
  | 2 => .int
  | 3 => .int
  | _ => .long
abbrev wsX00 : List Cond := u_ws RX0 TX0 5
theorem nmX0 : ∀ a, a < 5 → ∀ b, b < 5 → a ≠ b → (TX0 a).2.1 ≠ (TX0 b).2.1 := by decide +kernel
theorem tyX0_ok : ∀ k, k < 5 → parseFieldDescriptor (TX0 k).2.2.1 = some (tyX0 k) := by decide +kernel
abbrev cX0_init : ByteArray := prog_2_method_1_code
def yX0_init : MethodName := ⟨RX0, "<init>", "()V"⟩
abbrev cX0_find : ByteArray := prog_2_method_2_code
def yX0_find : MethodName := ⟨RX0, "find", "(ILFlashWheelReader$Readings;I)V"⟩
abbrev cX0_has : ByteArray := prog_2_method_3_code
def yX0_has : MethodName := ⟨RX0, "has", "(I)Z"⟩
abbrev cX0_number : ByteArray := prog_2_method_4_code
def yX0_number : MethodName := ⟨RX0, "number", "()I"⟩
abbrev cX0_inOrder : ByteArray := prog_2_method_5_code
def yX0_inOrder : MethodName := ⟨RX0, "inOrder", "(I)I"⟩
abbrev cX0_nearestTo : ByteArray := prog_2_method_6_code
def yX0_nearestTo : MethodName := ⟨RX0, "nearestTo", "(I)I"⟩
abbrev cX0_countByRemainder : ByteArray := prog_2_method_7_code
def yX0_countByRemainder : MethodName := ⟨RX0, "countByRemainder", "()V"⟩
abbrev cX0_restOf : ByteArray := prog_2_method_8_code
def yX0_restOf : MethodName := ⟨RX0, "restOf", "(I)I"⟩
def RX1 : String := "FlashWheelReader$Disc"
def TX1 : u_T := fun k => match k with
  | 0 => ("FlashWheelReader$Disc", "cells", "I", false)
  | 1 => ("FlashWheelReader$Disc", "open", "I", false)
  | 2 => ("FlashWheelReader$Disc", "start", "I", false)
  | _ => ("FlashWheelReader$Disc", "speed", "I", false)
def tyX1 : Nat → FieldType := fun k => match k with
  | 0 => .int
  | 1 => .int
  | 2 => .int
  | _ => .int
abbrev wsX10 : List Cond := u_ws RX1 TX1 4
theorem nmX1 : ∀ a, a < 4 → ∀ b, b < 4 → a ≠ b → (TX1 a).2.1 ≠ (TX1 b).2.1 := by decide +kernel
theorem tyX1_ok : ∀ k, k < 4 → parseFieldDescriptor (TX1 k).2.2.1 = some (tyX1 k) := by decide +kernel
abbrev cX1_init : ByteArray := prog_3_method_1_code
def yX1_init : MethodName := ⟨RX1, "<init>", "()V"⟩
abbrev cX1_copyFrom : ByteArray := prog_3_method_2_code
def yX1_copyFrom : MethodName := ⟨RX1, "copyFrom", "(LFlashWheelReader$Disc;)V"⟩
abbrev cX1_isOpenAt : ByteArray := prog_3_method_3_code
def yX1_isOpenAt : MethodName := ⟨RX1, "isOpenAt", "(I)Z"⟩
abbrev cX1_opensAt : ByteArray := prog_3_method_4_code
def yX1_opensAt : MethodName := ⟨RX1, "opensAt", "(I)Z"⟩
abbrev cX1_openings : ByteArray := prog_3_method_5_code
def yX1_openings : MethodName := ⟨RX1, "openings", "()I"⟩
def RX2 : String := "FlashWheelReader$Flashes"
def TX2 : u_T := fun k => match k with
  | 0 => ("FlashWheelReader$Flashes", "first", "I", false)
  | _ => ("FlashWheelReader$Flashes", "period", "I", false)
def tyX2 : Nat → FieldType := fun k => match k with
  | 0 => .int
  | _ => .int
abbrev wsX20 : List Cond := u_ws RX2 TX2 2
theorem nmX2 : ∀ a, a < 2 → ∀ b, b < 2 → a ≠ b → (TX2 a).2.1 ≠ (TX2 b).2.1 := by decide +kernel
theorem tyX2_ok : ∀ k, k < 2 → parseFieldDescriptor (TX2 k).2.2.1 = some (tyX2 k) := by decide +kernel
abbrev cX2_init : ByteArray := prog_4_method_1_code
def yX2_init : MethodName := ⟨RX2, "<init>", "()V"⟩
abbrev cX2_copyFrom : ByteArray := prog_4_method_2_code
def yX2_copyFrom : MethodName := ⟨RX2, "copyFrom", "(LFlashWheelReader$Flashes;)V"⟩
abbrev cX2_number : ByteArray := prog_4_method_3_code
def yX2_number : MethodName := ⟨RX2, "number", "()I"⟩
abbrev cX2_tickOf : ByteArray := prog_4_method_4_code
def yX2_tickOf : MethodName := ⟨RX2, "tickOf", "(I)I"⟩
def RX3 : String := "FlashWheelReader$History"
def TX3 : u_T := fun k => match k with
  | 0 => ("FlashWheelReader$History", "ring", "[LFlashWheelReader$State;", true)
  | 1 => ("FlashWheelReader$History", "next", "I", false)
  | _ => ("FlashWheelReader$History", "size", "I", false)
def tyX3 : Nat → FieldType := fun k => match k with
  | 0 => .array (.object "FlashWheelReader$State")
  | 1 => .int
  | _ => .int
abbrev wsX30 : List Cond := u_ws RX3 TX3 3
theorem nmX3 : ∀ a, a < 3 → ∀ b, b < 3 → a ≠ b → (TX3 a).2.1 ≠ (TX3 b).2.1 := by decide +kernel
theorem tyX3_ok : ∀ k, k < 3 → parseFieldDescriptor (TX3 k).2.2.1 = some (tyX3 k) := by decide +kernel
abbrev cX3_init : ByteArray := prog_5_method_1_code
def yX3_init : MethodName := ⟨RX3, "<init>", "()V"⟩
abbrev cX3_remember : ByteArray := prog_5_method_2_code
def yX3_remember : MethodName := ⟨RX3, "remember", "(LFlashWheelReader$State;)V"⟩
abbrev cX3_slotAt : ByteArray := prog_5_method_4_code
def yX3_slotAt : MethodName := ⟨RX3, "slotAt", "(I)LFlashWheelReader$State;"⟩
def RX4 : String := "FlashWheelReader$Readings"
def TX4 : u_T := fun k => match k with
  | 0 => ("FlashWheelReader$Readings", "ticks", "[I", true)
  | 1 => ("FlashWheelReader$Readings", "steps", "[I", true)
  | 2 => ("FlashWheelReader$Readings", "size", "I", false)
  | _ => ("FlashWheelReader$Readings", "limit", "I", false)
def tyX4 : Nat → FieldType := fun k => match k with
  | 0 => .array .int
  | 1 => .array .int
  | 2 => .int
  | _ => .int
abbrev wsX40 : List Cond := u_ws RX4 TX4 4
theorem nmX4 : ∀ a, a < 4 → ∀ b, b < 4 → a ≠ b → (TX4 a).2.1 ≠ (TX4 b).2.1 := by decide +kernel
theorem tyX4_ok : ∀ k, k < 4 → parseFieldDescriptor (TX4 k).2.2.1 = some (tyX4 k) := by decide +kernel
abbrev cX4_init : ByteArray := prog_6_method_1_code
def yX4_init : MethodName := ⟨RX4, "<init>", "()V"⟩
abbrev cX4_copyFrom : ByteArray := prog_6_method_2_code
def yX4_copyFrom : MethodName := ⟨RX4, "copyFrom", "(LFlashWheelReader$Readings;)V"⟩
abbrev cX4_add : ByteArray := prog_6_method_3_code
def yX4_add : MethodName := ⟨RX4, "add", "(II)V"⟩
abbrev cX4_allFit : ByteArray := prog_6_method_5_code
def yX4_allFit : MethodName := ⟨RX4, "allFit", "(III)Z"⟩
def RX5 : String := "FlashWheelReader$State"
def TX5 : u_T := fun k => match k with
  | 0 => ("FlashWheelReader$State", "wheel", "LFlashWheelReader$Wheel;", true)
  | 1 => ("FlashWheelReader$State", "flashes", "LFlashWheelReader$Flashes;", true)
  | 2 => ("FlashWheelReader$State", "readings", "LFlashWheelReader$Readings;", true)
  | _ => ("FlashWheelReader$State", "disc", "LFlashWheelReader$Disc;", true)
def tyX5 : Nat → FieldType := fun k => match k with
  | 0 => .object "FlashWheelReader$Wheel"
  | 1 => .object "FlashWheelReader$Flashes"
  | 2 => .object "FlashWheelReader$Readings"
  | _ => .object "FlashWheelReader$Disc"
abbrev wsX50 : List Cond := u_ws RX5 TX5 4
theorem nmX5 : ∀ a, a < 4 → ∀ b, b < 4 → a ≠ b → (TX5 a).2.1 ≠ (TX5 b).2.1 := by decide +kernel
theorem tyX5_ok : ∀ k, k < 4 → parseFieldDescriptor (TX5 k).2.2.1 = some (tyX5 k) := by decide +kernel
abbrev cX5_init : ByteArray := prog_7_method_1_code
def yX5_init : MethodName := ⟨RX5, "<init>", "()V"⟩
abbrev cX5_copyFrom : ByteArray := prog_7_method_2_code
def yX5_copyFrom : MethodName := ⟨RX5, "copyFrom", "(LFlashWheelReader$State;)V"⟩
abbrev cX5_earliestAlike : ByteArray := prog_7_method_3_code
def yX5_earliestAlike : MethodName := ⟨RX5, "earliestAlike", "(I)I"⟩
abbrev cX5_countSeeming : ByteArray := prog_7_method_4_code
def yX5_countSeeming : MethodName := ⟨RX5, "countSeeming", "(I)I"⟩
abbrev cX5_differentPictures : ByteArray := prog_7_method_5_code
def yX5_differentPictures : MethodName := ⟨RX5, "differentPictures", "()I"⟩
def RX6 : String := "FlashWheelReader$Wheel"
def TX6 : u_T := fun k => match k with
  | 0 => ("FlashWheelReader$Wheel", "marks", "[I", true)
  | 1 => ("FlashWheelReader$Wheel", "changeTicks", "[I", true)
  | 2 => ("FlashWheelReader$Wheel", "changeSpeeds", "[I", true)
  | 3 => ("FlashWheelReader$Wheel", "cells", "I", false)
  | 4 => ("FlashWheelReader$Wheel", "start", "I", false)
  | 5 => ("FlashWheelReader$Wheel", "speed", "I", false)
  | _ => ("FlashWheelReader$Wheel", "changes", "I", false)
def tyX6 : Nat → FieldType := fun k => match k with
  | 0 => .array .int
  | 1 => .array .int
  | 2 => .array .int
  | 3 => .int
  | 4 => .int
  | 5 => .int
  | _ => .int
abbrev wsX60 : List Cond := u_ws RX6 TX6 7
theorem nmX6 : ∀ a, a < 7 → ∀ b, b < 7 → a ≠ b → (TX6 a).2.1 ≠ (TX6 b).2.1 := by decide +kernel
theorem tyX6_ok : ∀ k, k < 7 → parseFieldDescriptor (TX6 k).2.2.1 = some (tyX6 k) := by decide +kernel
abbrev cX6_init : ByteArray := prog_8_method_1_code
def yX6_init : MethodName := ⟨RX6, "<init>", "()V"⟩
abbrev cX6_copyFrom : ByteArray := prog_8_method_2_code
def yX6_copyFrom : MethodName := ⟨RX6, "copyFrom", "(LFlashWheelReader$Wheel;)V"⟩
abbrev cX6_empty : ByteArray := prog_8_method_3_code
def yX6_empty : MethodName := ⟨RX6, "empty", "()V"⟩
abbrev cX6_addCell : ByteArray := prog_8_method_4_code
def yX6_addCell : MethodName := ⟨RX6, "addCell", "(I)V"⟩
abbrev cX6_markOf : ByteArray := prog_8_method_5_code
def yX6_markOf : MethodName := ⟨RX6, "markOf", "(I)I"⟩
abbrev cX6_markedCells : ByteArray := prog_8_method_6_code
def yX6_markedCells : MethodName := ⟨RX6, "markedCells", "()I"⟩
abbrev cX6_measure : ByteArray := prog_8_method_7_code
def yX6_measure : MethodName := ⟨RX6, "measure", "()I"⟩
abbrev cX6_isSameTurnedBy : ByteArray := prog_8_method_8_code
def yX6_isSameTurnedBy : MethodName := ⟨RX6, "isSameTurnedBy", "(I)Z"⟩
abbrev cX6_placeOfChange : ByteArray := prog_8_method_9_code
def yX6_placeOfChange : MethodName := ⟨RX6, "placeOfChange", "(I)I"⟩
abbrev cX6_hasChange : ByteArray := prog_8_method_10_code
def yX6_hasChange : MethodName := ⟨RX6, "hasChange", "(I)Z"⟩
abbrev cX6_hasRoomFor : ByteArray := prog_8_method_11_code
def yX6_hasRoomFor : MethodName := ⟨RX6, "hasRoomFor", "(I)Z"⟩
abbrev cX6_putSpeed : ByteArray := prog_8_method_12_code
def yX6_putSpeed : MethodName := ⟨RX6, "putSpeed", "(II)V"⟩
abbrev cX6_insertChange : ByteArray := prog_8_method_13_code
def yX6_insertChange : MethodName := ⟨RX6, "insertChange", "(I)V"⟩
abbrev cX6_turnAt : ByteArray := prog_8_method_15_code
def yX6_turnAt : MethodName := ⟨RX6, "turnAt", "(I)I"⟩
abbrev cX6_stepBetween : ByteArray := prog_8_method_16_code
def yX6_stepBetween : MethodName := ⟨RX6, "stepBetween", "(III)I"⟩
abbrev cX6_turnsModulo : ByteArray := prog_8_method_17_code
def yX6_turnsModulo : MethodName := ⟨RX6, "turnsModulo", "(IIII)J"⟩
def RX7 : String := "FlashWheelReader$WheelText"
def TX7 : u_T := fun k => match k with
  | 0 => ("FlashWheelReader$WheelText", "codes", "[I", true)
  | 1 => ("FlashWheelReader$WheelText", "next", "I", false)
  | 2 => ("FlashWheelReader$WheelText", "length", "I", false)
  | 3 => ("FlashWheelReader$WheelText", "fault", "I", false)
  | _ => ("FlashWheelReader$WheelText", "faultIndex", "I", false)
def tyX7 : Nat → FieldType := fun k => match k with
  | 0 => .array .int
  | 1 => .int
  | 2 => .int
  | 3 => .int
  | _ => .int
abbrev wsX70 : List Cond := u_ws RX7 TX7 5
theorem nmX7 : ∀ a, a < 5 → ∀ b, b < 5 → a ≠ b → (TX7 a).2.1 ≠ (TX7 b).2.1 := by decide +kernel
theorem tyX7_ok : ∀ k, k < 5 → parseFieldDescriptor (TX7 k).2.2.1 = some (tyX7 k) := by decide +kernel
abbrev cX7_init : ByteArray := prog_9_method_1_code
def yX7_init : MethodName := ⟨RX7, "<init>", "()V"⟩
abbrev cX7_append : ByteArray := prog_9_method_2_code
def yX7_append : MethodName := ⟨RX7, "append", "(I)V"⟩
abbrev cX7_readInto : ByteArray := prog_9_method_3_code
def yX7_readInto : MethodName := ⟨RX7, "readInto", "(LFlashWheelReader$Wheel;)Z"⟩
abbrev cX7_readCells : ByteArray := prog_9_method_4_code
def yX7_readCells : MethodName := ⟨RX7, "readCells", "(LFlashWheelReader$Wheel;)V"⟩
abbrev cX7_readSpeed : ByteArray := prog_9_method_5_code
def yX7_readSpeed : MethodName := ⟨RX7, "readSpeed", "()I"⟩
abbrev cX7_readNumber : ByteArray := prog_9_method_6_code
def yX7_readNumber : MethodName := ⟨RX7, "readNumber", "(II)I"⟩
abbrev cX7_takes : ByteArray := prog_9_method_7_code
def yX7_takes : MethodName := ⟨RX7, "takes", "(I)Z"⟩
abbrev cX7_code : ByteArray := prog_9_method_8_code
def yX7_code : MethodName := ⟨RX7, "code", "()I"⟩
abbrev cX7_tellFault : ByteArray := prog_9_method_9_code
def yX7_tellFault : MethodName := ⟨RX7, "tellFault", "(II)V"⟩
abbrev cX7_isCell : ByteArray := prog_9_method_10_code
def yX7_isCell : MethodName := ⟨RX7, "isCell", "(I)Z"⟩
abbrev cX7_isDigit : ByteArray := prog_9_method_11_code
def yX7_isDigit : MethodName := ⟨RX7, "isDigit", "(I)Z"⟩
def RX8 : String := "FlashWheelReader"
def TX8 : u_T := fun k => match k with
  | 0 => ("FlashWheelReader", "now", "LFlashWheelReader$State;", true)
  | 1 => ("FlashWheelReader", "history", "LFlashWheelReader$History;", true)
  | 2 => ("FlashWheelReader", "text", "LFlashWheelReader$WheelText;", true)
  | 3 => ("FlashWheelReader", "loaded", "LFlashWheelReader$Wheel;", true)
  | _ => ("FlashWheelReader", "found", "LFlashWheelReader$Candidates;", true)
def tyX8 : Nat → FieldType := fun k => match k with
  | 0 => .object "FlashWheelReader$State"
  | 1 => .object "FlashWheelReader$History"
  | 2 => .object "FlashWheelReader$WheelText"
  | 3 => .object "FlashWheelReader$Wheel"
  | _ => .object "FlashWheelReader$Candidates"
abbrev wsX80 : List Cond := u_ws RX8 TX8 5
theorem nmX8 : ∀ a, a < 5 → ∀ b, b < 5 → a ≠ b → (TX8 a).2.1 ≠ (TX8 b).2.1 := by decide +kernel
theorem tyX8_ok : ∀ k, k < 5 → parseFieldDescriptor (TX8 k).2.2.1 = some (tyX8 k) := by decide +kernel
abbrev cX8_init : ByteArray := prog_1_method_1_code
def yX8_init : MethodName := ⟨RX8, "<init>", "()V"⟩
abbrev cX8_type : ByteArray := prog_1_method_2_code
def yX8_type : MethodName := ⟨RX8, "type", "(I)I"⟩
abbrev cX8_clearText : ByteArray := prog_1_method_3_code
def yX8_clearText : MethodName := ⟨RX8, "clearText", "()I"⟩
abbrev cX8_load : ByteArray := prog_1_method_4_code
def yX8_load : MethodName := ⟨RX8, "load", "()I"⟩
abbrev cX8_setSpeed : ByteArray := prog_1_method_8_code
def yX8_setSpeed : MethodName := ⟨RX8, "setSpeed", "(II)I"⟩
abbrev cX8_markAt : ByteArray := prog_1_method_10_code
def yX8_markAt : MethodName := ⟨RX8, "markAt", "(II)I"⟩
abbrev cX8_turn : ByteArray := prog_1_method_11_code
def yX8_turn : MethodName := ⟨RX8, "turn", "(I)I"⟩
abbrev cX8_setFlash : ByteArray := prog_1_method_12_code
def yX8_setFlash : MethodName := ⟨RX8, "setFlash", "(II)I"⟩
abbrev cX8_flash : ByteArray := prog_1_method_13_code
def yX8_flash : MethodName := ⟨RX8, "flash", "(II)I"⟩
abbrev cX8_step : ByteArray := prog_1_method_14_code
def yX8_step : MethodName := ⟨RX8, "step", "(II)I"⟩
abbrev cX8_seems : ByteArray := prog_1_method_15_code
def yX8_seems : MethodName := ⟨RX8, "seems", "(I)I"⟩
abbrev cX8_stillPeriod : ByteArray := prog_1_method_16_code
def yX8_stillPeriod : MethodName := ⟨RX8, "stillPeriod", "(II)I"⟩
abbrev cX8_read : ByteArray := prog_1_method_17_code
def yX8_read : MethodName := ⟨RX8, "read", "(II)I"⟩
abbrev cX8_look : ByteArray := prog_1_method_18_code
def yX8_look : MethodName := ⟨RX8, "look", "(I)I"⟩
abbrev cX8_reading : ByteArray := prog_1_method_20_code
def yX8_reading : MethodName := ⟨RX8, "reading", "(II)I"⟩
abbrev cX8_setLimit : ByteArray := prog_1_method_21_code
def yX8_setLimit : MethodName := ⟨RX8, "setLimit", "(I)I"⟩
abbrev cX8_candidates : ByteArray := prog_1_method_22_code
def yX8_candidates : MethodName := ⟨RX8, "candidates", "()I"⟩
abbrev cX8_candidate : ByteArray := prog_1_method_23_code
def yX8_candidate : MethodName := ⟨RX8, "candidate", "(I)I"⟩
abbrev cX8_nearest : ByteArray := prog_1_method_24_code
def yX8_nearest : MethodName := ⟨RX8, "nearest", "(I)I"⟩
abbrev cX8_odd : ByteArray := prog_1_method_25_code
def yX8_odd : MethodName := ⟨RX8, "odd", "()I"⟩
abbrev cX8_bestPeriod : ByteArray := prog_1_method_26_code
def yX8_bestPeriod : MethodName := ⟨RX8, "bestPeriod", "(IZ)I"⟩
abbrev cX8_count : ByteArray := prog_1_method_33_code
def yX8_count : MethodName := ⟨RX8, "count", "(I)I"⟩
abbrev cX8_addReading : ByteArray := prog_1_method_38_code
def yX8_addReading : MethodName := ⟨RX8, "addReading", "(II)I"⟩
abbrev cX8_findWithout : ByteArray := prog_1_method_39_code
def yX8_findWithout : MethodName := ⟨RX8, "findWithout", "(I)LFlashWheelReader$Candidates;"⟩
abbrev cX8_isPlace : ByteArray := prog_1_method_40_code
def yX8_isPlace : MethodName := ⟨RX8, "isPlace", "(I)Z"⟩
abbrev cX8_isFlash : ByteArray := prog_1_method_41_code
def yX8_isFlash : MethodName := ⟨RX8, "isFlash", "(I)Z"⟩
abbrev cX8_isReading : ByteArray := prog_1_method_42_code
def yX8_isReading : MethodName := ⟨RX8, "isReading", "(I)Z"⟩
abbrev cX8_isTick : ByteArray := prog_1_method_43_code
def yX8_isTick : MethodName := ⟨RX8, "isTick", "(I)Z"⟩
abbrev cX8_within : ByteArray := prog_1_method_44_code
def yX8_within : MethodName := ⟨RX8, "within", "(III)Z"⟩
abbrev cX8_mod : ByteArray := prog_1_method_45_code
def yX8_mod : MethodName := ⟨RX8, "mod", "(II)I"⟩
abbrev cX8_hasBit : ByteArray := prog_1_method_46_code
def yX8_hasBit : MethodName := ⟨RX8, "hasBit", "(JI)Z"⟩
abbrev cX8_at : ByteArray := prog_1_method_47_code
def yX8_at : MethodName := ⟨RX8, "at", "([II)I"⟩
abbrev cX8_put : ByteArray := prog_1_method_48_code
def yX8_put : MethodName := ⟨RX8, "put", "([III)V"⟩
abbrev cX8_copyRow : ByteArray := prog_1_method_49_code
def yX8_copyRow : MethodName := ⟨RX8, "copyRow", "([I[I)V"⟩
def RX9 : String := "FlashWheelReaderModel"
def TX9 : u_T := fun k => match k with
  | _ => ("", "", "", false)
def tyX9 : Nat → FieldType := fun k => match k with
  | _ => .int
abbrev wsX90 : List Cond := u_ws RX9 TX9 0
theorem nmX9 : ∀ a, a < 0 → ∀ b, b < 0 → a ≠ b → (TX9 a).2.1 ≠ (TX9 b).2.1 := by decide +kernel
theorem tyX9_ok : ∀ k, k < 0 → parseFieldDescriptor (TX9 k).2.2.1 = some (tyX9 k) := by decide +kernel
def RJ13 : String := "java/lang/Long"
def TJ13 : u_T := fun k => match k with
  | _ => ("", "", "", false)
def tyJ13 : Nat → FieldType := fun k => match k with
  | _ => .int
abbrev wsJ130 : List Cond := u_ws RJ13 TJ13 0
theorem nmJ13 : ∀ a, a < 0 → ∀ b, b < 0 → a ≠ b → (TJ13 a).2.1 ≠ (TJ13 b).2.1 := by decide +kernel
theorem tyJ13_ok : ∀ k, k < 0 → parseFieldDescriptor (TJ13 k).2.2.1 = some (tyJ13 k) := by decide +kernel
abbrev cJ13_bitCount_95d88 : ByteArray := prog_12_method_50_code
def yJ13_bitCount_95d88 : MethodName := ⟨RJ13, "bitCount", "(J)I"⟩
def RJ9 : String := "java/lang/Math"
def TJ9 : u_T := fun k => match k with
  | _ => ("", "", "", false)
def tyJ9 : Nat → FieldType := fun k => match k with
  | _ => .int
abbrev wsJ90 : List Cond := u_ws RJ9 TJ9 0
theorem nmJ9 : ∀ a, a < 0 → ∀ b, b < 0 → a ≠ b → (TJ9 a).2.1 ≠ (TJ9 b).2.1 := by decide +kernel
theorem tyJ9_ok : ∀ k, k < 0 → parseFieldDescriptor (TJ9 k).2.2.1 = some (tyJ9 k) := by decide +kernel
abbrev cJ9_abs_0f7a4 : ByteArray := prog_13_method_59_code
def yJ9_abs_0f7a4 : MethodName := ⟨RJ9, "abs", "(I)I"⟩
abbrev cJ9_max_7cf53 : ByteArray := prog_13_method_65_code
def yJ9_max_7cf53 : MethodName := ⟨RJ9, "max", "(II)I"⟩
def RL : String := "FlashWheelReaderLaw"
abbrev cL_cell : ByteArray := method_2_code
def yL_cell : MethodName := ⟨RL, "cell", "([II)I"⟩
abbrev cL_low : ByteArray := method_3_code
def yL_low : MethodName := ⟨RL, "low", "(II)I"⟩
abbrev cL_mod : ByteArray := method_4_code
def yL_mod : MethodName := ⟨RL, "mod", "(II)I"⟩
abbrev cL_wheel : ByteArray := method_5_code
def yL_wheel : MethodName := ⟨RL, "wheel", "(LFlashWheelReader;[II[I)Z"⟩
abbrev cL_speeds : ByteArray := method_6_code
def yL_speeds : MethodName := ⟨RL, "speeds", "(LFlashWheelReader;[II[I[II)Z"⟩
abbrev cL_isSame : ByteArray := method_7_code
def yL_isSame : MethodName := ⟨RL, "isSame", "([III)Z"⟩
abbrev cL_measure : ByteArray := method_8_code
def yL_measure : MethodName := ⟨RL, "measure", "([II)I"⟩
abbrev cL_turn : ByteArray := method_9_code
def yL_turn : MethodName := ⟨RL, "turn", "(I[I[IIII)I"⟩
abbrev cL_step : ByteArray := method_10_code
def yL_step : MethodName := ⟨RL, "step", "([IIII)I"⟩
abbrev cL_flashes : ByteArray := method_11_code
def yL_flashes : MethodName := ⟨RL, "flashes", "(LFlashWheelReader;[II[I[III)Z"⟩
abbrev cL_fits : ByteArray := method_12_code
def yL_fits : MethodName := ⟨RL, "fits", "(LFlashWheelReader;III)Z"⟩
abbrev cL_readings : ByteArray := method_13_code
def yL_readings : MethodName := ⟨RL, "readings", "(LFlashWheelReader;II)Z"⟩
abbrev cL_law : ByteArray := code
def yL_law : MethodName := ⟨RL, "law", "([I)Z"⟩
abbrev vwCl : List vw_C := [(RX0, TX0, 5), (RX1, TX1, 4), (RX2, TX2, 2), (RX3, TX3, 3), (RX4, TX4, 4), (RX5, TX5, 4), (RX6, TX6, 7), (RX7, TX7, 5), (RX8, TX8, 5)]
