-- ===== PART A: goes FIRST, ahead of the names: the tables' words, and 'selects' of the private methods out of them =====
/-- a private method of a class that the tables say can be made, by its rows of tables_1 -/
def lw_okq (q : MethodName × Nat) : Prop := (q.1.cls ≠ "java/lang/invoke/MethodHandle" ∧ q.1.cls ≠ "java/lang/invoke/VarHandle") ∧ Cond.instantiable q.1.cls q.2 ∈ tables_1 ∧ Cond.privateMethod q.1 ∈ tables_1 ∧ Cond.instanceMethod q.1 ∈ tables_1
theorem lw_p0 : lw_okq (⟨"FlashWheelReader$WheelText", "readCells", "(LFlashWheelReader$Wheel;)V"⟩, 5) := ⟨⟨by decide +kernel, by decide +kernel⟩, List.mem_of_getElem? (i := 170) (by decide +kernel), List.mem_of_getElem? (i := 263) (by decide +kernel), List.mem_of_getElem? (i := 264) (by decide +kernel)⟩
theorem lw_p1 : lw_okq (⟨"FlashWheelReader$WheelText", "code", "()I"⟩, 5) := ⟨⟨by decide +kernel, by decide +kernel⟩, List.mem_of_getElem? (i := 170) (by decide +kernel), List.mem_of_getElem? (i := 267) (by decide +kernel), List.mem_of_getElem? (i := 268) (by decide +kernel)⟩
theorem lw_p2 : lw_okq (⟨"FlashWheelReader$WheelText", "tellFault", "(II)V"⟩, 5) := ⟨⟨by decide +kernel, by decide +kernel⟩, List.mem_of_getElem? (i := 170) (by decide +kernel), List.mem_of_getElem? (i := 282) (by decide +kernel), List.mem_of_getElem? (i := 283) (by decide +kernel)⟩
theorem lw_p3 : lw_okq (⟨"FlashWheelReader$WheelText", "takes", "(I)Z"⟩, 5) := ⟨⟨by decide +kernel, by decide +kernel⟩, List.mem_of_getElem? (i := 170) (by decide +kernel), List.mem_of_getElem? (i := 286) (by decide +kernel), List.mem_of_getElem? (i := 287) (by decide +kernel)⟩
theorem lw_p4 : lw_okq (⟨"FlashWheelReader$WheelText", "readNumber", "(II)I"⟩, 5) := ⟨⟨by decide +kernel, by decide +kernel⟩, List.mem_of_getElem? (i := 170) (by decide +kernel), List.mem_of_getElem? (i := 290) (by decide +kernel), List.mem_of_getElem? (i := 291) (by decide +kernel)⟩
theorem lw_p5 : lw_okq (⟨"FlashWheelReader$WheelText", "readSpeed", "()I"⟩, 5) := ⟨⟨by decide +kernel, by decide +kernel⟩, List.mem_of_getElem? (i := 170) (by decide +kernel), List.mem_of_getElem? (i := 297) (by decide +kernel), List.mem_of_getElem? (i := 298) (by decide +kernel)⟩
theorem lw_p6 : lw_okq (⟨"FlashWheelReader$History", "slotAt", "(I)LFlashWheelReader$State;"⟩, 3) := ⟨⟨by decide +kernel, by decide +kernel⟩, List.mem_of_getElem? (i := 150) (by decide +kernel), List.mem_of_getElem? (i := 305) (by decide +kernel), List.mem_of_getElem? (i := 306) (by decide +kernel)⟩
theorem lw_p7 : lw_okq (⟨"FlashWheelReader", "isPlace", "(I)Z"⟩, 5) := ⟨⟨by decide +kernel, by decide +kernel⟩, List.mem_of_getElem? (i := 15) (by decide +kernel), List.mem_of_getElem? (i := 345) (by decide +kernel), List.mem_of_getElem? (i := 346) (by decide +kernel)⟩
theorem lw_p8 : lw_okq (⟨"FlashWheelReader", "isFlash", "(I)Z"⟩, 5) := ⟨⟨by decide +kernel, by decide +kernel⟩, List.mem_of_getElem? (i := 15) (by decide +kernel), List.mem_of_getElem? (i := 420) (by decide +kernel), List.mem_of_getElem? (i := 421) (by decide +kernel)⟩
theorem lw_p9 : lw_okq (⟨"FlashWheelReader", "addReading", "(II)I"⟩, 5) := ⟨⟨by decide +kernel, by decide +kernel⟩, List.mem_of_getElem? (i := 15) (by decide +kernel), List.mem_of_getElem? (i := 488) (by decide +kernel), List.mem_of_getElem? (i := 489) (by decide +kernel)⟩
theorem lw_p10 : lw_okq (⟨"FlashWheelReader", "isReading", "(I)Z"⟩, 5) := ⟨⟨by decide +kernel, by decide +kernel⟩, List.mem_of_getElem? (i := 15) (by decide +kernel), List.mem_of_getElem? (i := 506) (by decide +kernel), List.mem_of_getElem? (i := 507) (by decide +kernel)⟩
theorem lw_p11 : lw_okq (⟨"FlashWheelReader", "findWithout", "(I)LFlashWheelReader$Candidates;"⟩, 5) := ⟨⟨by decide +kernel, by decide +kernel⟩, List.mem_of_getElem? (i := 15) (by decide +kernel), List.mem_of_getElem? (i := 520) (by decide +kernel), List.mem_of_getElem? (i := 521) (by decide +kernel)⟩
theorem lw_p12 : lw_okq (⟨"FlashWheelReader", "digestOfPictures", "(J)J"⟩, 5) := ⟨⟨by decide +kernel, by decide +kernel⟩, List.mem_of_getElem? (i := 15) (by decide +kernel), List.mem_of_getElem? (i := 686) (by decide +kernel), List.mem_of_getElem? (i := 687) (by decide +kernel)⟩
theorem lw_p13 : lw_okq (⟨"FlashWheelReader", "digestOfReadings", "(J)J"⟩, 5) := ⟨⟨by decide +kernel, by decide +kernel⟩, List.mem_of_getElem? (i := 15) (by decide +kernel), List.mem_of_getElem? (i := 692) (by decide +kernel), List.mem_of_getElem? (i := 693) (by decide +kernel)⟩
theorem lw_p14 : lw_okq (⟨"FlashWheelReader", "digestOfOpenings", "(J)J"⟩, 5) := ⟨⟨by decide +kernel, by decide +kernel⟩, List.mem_of_getElem? (i := 15) (by decide +kernel), List.mem_of_getElem? (i := 700) (by decide +kernel), List.mem_of_getElem? (i := 701) (by decide +kernel)⟩
theorem lw_p15 : lw_okq (⟨"FlashWheelReaderModel", "copies", "(II)V"⟩, 17) := ⟨⟨by decide +kernel, by decide +kernel⟩, List.mem_of_getElem? (i := 706) (by decide +kernel), List.mem_of_getElem? (i := 769) (by decide +kernel), List.mem_of_getElem? (i := 770) (by decide +kernel)⟩
def lw_privs_1 : List (MethodName × Nat) := [(⟨"FlashWheelReader$WheelText", "readCells", "(LFlashWheelReader$Wheel;)V"⟩, 5), (⟨"FlashWheelReader$WheelText", "code", "()I"⟩, 5), (⟨"FlashWheelReader$WheelText", "tellFault", "(II)V"⟩, 5), (⟨"FlashWheelReader$WheelText", "takes", "(I)Z"⟩, 5), (⟨"FlashWheelReader$WheelText", "readNumber", "(II)I"⟩, 5), (⟨"FlashWheelReader$WheelText", "readSpeed", "()I"⟩, 5), (⟨"FlashWheelReader$History", "slotAt", "(I)LFlashWheelReader$State;"⟩, 3), (⟨"FlashWheelReader", "isPlace", "(I)Z"⟩, 5), (⟨"FlashWheelReader", "isFlash", "(I)Z"⟩, 5), (⟨"FlashWheelReader", "addReading", "(II)I"⟩, 5), (⟨"FlashWheelReader", "isReading", "(I)Z"⟩, 5), (⟨"FlashWheelReader", "findWithout", "(I)LFlashWheelReader$Candidates;"⟩, 5), (⟨"FlashWheelReader", "digestOfPictures", "(J)J"⟩, 5), (⟨"FlashWheelReader", "digestOfReadings", "(J)J"⟩, 5), (⟨"FlashWheelReader", "digestOfOpenings", "(J)J"⟩, 5), (⟨"FlashWheelReaderModel", "copies", "(II)V"⟩, 17)]
theorem lw_r1 : ∀ q ∈ lw_privs_1, lw_okq q := List.forall_mem_cons.mpr ⟨lw_p0, List.forall_mem_cons.mpr ⟨lw_p1, List.forall_mem_cons.mpr ⟨lw_p2, List.forall_mem_cons.mpr ⟨lw_p3, List.forall_mem_cons.mpr ⟨lw_p4, List.forall_mem_cons.mpr ⟨lw_p5, List.forall_mem_cons.mpr ⟨lw_p6, List.forall_mem_cons.mpr ⟨lw_p7, List.forall_mem_cons.mpr ⟨lw_p8, List.forall_mem_cons.mpr ⟨lw_p9, List.forall_mem_cons.mpr ⟨lw_p10, List.forall_mem_cons.mpr ⟨lw_p11, List.forall_mem_cons.mpr ⟨lw_p12, List.forall_mem_cons.mpr ⟨lw_p13, List.forall_mem_cons.mpr ⟨lw_p14, List.forall_mem_cons.mpr ⟨lw_p15, fun _ h => absurd h List.not_mem_nil⟩⟩⟩⟩⟩⟩⟩⟩⟩⟩⟩⟩⟩⟩⟩⟩
theorem lw_p16 : lw_okq (⟨"FlashWheelReaderModel", "readsCells", "()Z"⟩, 17) := ⟨⟨by decide +kernel, by decide +kernel⟩, List.mem_of_getElem? (i := 706) (by decide +kernel), List.mem_of_getElem? (i := 788) (by decide +kernel), List.mem_of_getElem? (i := 789) (by decide +kernel)⟩
theorem lw_p17 : lw_okq (⟨"FlashWheelReaderModel", "here", "()I"⟩, 17) := ⟨⟨by decide +kernel, by decide +kernel⟩, List.mem_of_getElem? (i := 706) (by decide +kernel), List.mem_of_getElem? (i := 792) (by decide +kernel), List.mem_of_getElem? (i := 793) (by decide +kernel)⟩
theorem lw_p18 : lw_okq (⟨"FlashWheelReaderModel", "fails", "(II)Z"⟩, 17) := ⟨⟨by decide +kernel, by decide +kernel⟩, List.mem_of_getElem? (i := 706) (by decide +kernel), List.mem_of_getElem? (i := 796) (by decide +kernel), List.mem_of_getElem? (i := 797) (by decide +kernel)⟩
theorem lw_p19 : lw_okq (⟨"FlashWheelReaderModel", "readsStart", "()Z"⟩, 17) := ⟨⟨by decide +kernel, by decide +kernel⟩, List.mem_of_getElem? (i := 706) (by decide +kernel), List.mem_of_getElem? (i := 800) (by decide +kernel), List.mem_of_getElem? (i := 801) (by decide +kernel)⟩
theorem lw_p20 : lw_okq (⟨"FlashWheelReaderModel", "readsNumber", "(IIII)Z"⟩, 17) := ⟨⟨by decide +kernel, by decide +kernel⟩, List.mem_of_getElem? (i := 706) (by decide +kernel), List.mem_of_getElem? (i := 804) (by decide +kernel), List.mem_of_getElem? (i := 805) (by decide +kernel)⟩
theorem lw_p21 : lw_okq (⟨"FlashWheelReaderModel", "isDigit", "()Z"⟩, 17) := ⟨⟨by decide +kernel, by decide +kernel⟩, List.mem_of_getElem? (i := 706) (by decide +kernel), List.mem_of_getElem? (i := 808) (by decide +kernel), List.mem_of_getElem? (i := 809) (by decide +kernel)⟩
theorem lw_p22 : lw_okq (⟨"FlashWheelReaderModel", "readsSpeed", "()Z"⟩, 17) := ⟨⟨by decide +kernel, by decide +kernel⟩, List.mem_of_getElem? (i := 706) (by decide +kernel), List.mem_of_getElem? (i := 812) (by decide +kernel), List.mem_of_getElem? (i := 813) (by decide +kernel)⟩
theorem lw_p23 : lw_okq (⟨"FlashWheelReaderModel", "records", "()V"⟩, 17) := ⟨⟨by decide +kernel, by decide +kernel⟩, List.mem_of_getElem? (i := 706) (by decide +kernel), List.mem_of_getElem? (i := 816) (by decide +kernel), List.mem_of_getElem? (i := 817) (by decide +kernel)⟩
theorem lw_p24 : lw_okq (⟨"FlashWheelReaderModel", "cells", "()I"⟩, 17) := ⟨⟨by decide +kernel, by decide +kernel⟩, List.mem_of_getElem? (i := 706) (by decide +kernel), List.mem_of_getElem? (i := 820) (by decide +kernel), List.mem_of_getElem? (i := 821) (by decide +kernel)⟩
theorem lw_p25 : lw_okq (⟨"FlashWheelReaderModel", "isCell", "(I)Z"⟩, 17) := ⟨⟨by decide +kernel, by decide +kernel⟩, List.mem_of_getElem? (i := 706) (by decide +kernel), List.mem_of_getElem? (i := 832) (by decide +kernel), List.mem_of_getElem? (i := 833) (by decide +kernel)⟩
theorem lw_p26 : lw_okq (⟨"FlashWheelReaderModel", "becomes", "(II)I"⟩, 17) := ⟨⟨by decide +kernel, by decide +kernel⟩, List.mem_of_getElem? (i := 706) (by decide +kernel), List.mem_of_getElem? (i := 836) (by decide +kernel), List.mem_of_getElem? (i := 837) (by decide +kernel)⟩
theorem lw_p27 : lw_okq (⟨"FlashWheelReaderModel", "isChange", "(I)Z"⟩, 17) := ⟨⟨by decide +kernel, by decide +kernel⟩, List.mem_of_getElem? (i := 706) (by decide +kernel), List.mem_of_getElem? (i := 851) (by decide +kernel), List.mem_of_getElem? (i := 852) (by decide +kernel)⟩
theorem lw_p28 : lw_okq (⟨"FlashWheelReaderModel", "changeFrom", "(I)I"⟩, 17) := ⟨⟨by decide +kernel, by decide +kernel⟩, List.mem_of_getElem? (i := 706) (by decide +kernel), List.mem_of_getElem? (i := 855) (by decide +kernel), List.mem_of_getElem? (i := 856) (by decide +kernel)⟩
theorem lw_p29 : lw_okq (⟨"FlashWheelReaderModel", "tickOf", "(I)I"⟩, 17) := ⟨⟨by decide +kernel, by decide +kernel⟩, List.mem_of_getElem? (i := 706) (by decide +kernel), List.mem_of_getElem? (i := 859) (by decide +kernel), List.mem_of_getElem? (i := 860) (by decide +kernel)⟩
theorem lw_p30 : lw_okq (⟨"FlashWheelReaderModel", "laysTurns", "()V"⟩, 17) := ⟨⟨by decide +kernel, by decide +kernel⟩, List.mem_of_getElem? (i := 706) (by decide +kernel), List.mem_of_getElem? (i := 871) (by decide +kernel), List.mem_of_getElem? (i := 872) (by decide +kernel)⟩
theorem lw_p31 : lw_okq (⟨"FlashWheelReaderModel", "measure", "()I"⟩, 17) := ⟨⟨by decide +kernel, by decide +kernel⟩, List.mem_of_getElem? (i := 706) (by decide +kernel), List.mem_of_getElem? (i := 875) (by decide +kernel), List.mem_of_getElem? (i := 876) (by decide +kernel)⟩
def lw_privs_2 : List (MethodName × Nat) := [(⟨"FlashWheelReaderModel", "readsCells", "()Z"⟩, 17), (⟨"FlashWheelReaderModel", "here", "()I"⟩, 17), (⟨"FlashWheelReaderModel", "fails", "(II)Z"⟩, 17), (⟨"FlashWheelReaderModel", "readsStart", "()Z"⟩, 17), (⟨"FlashWheelReaderModel", "readsNumber", "(IIII)Z"⟩, 17), (⟨"FlashWheelReaderModel", "isDigit", "()Z"⟩, 17), (⟨"FlashWheelReaderModel", "readsSpeed", "()Z"⟩, 17), (⟨"FlashWheelReaderModel", "records", "()V"⟩, 17), (⟨"FlashWheelReaderModel", "cells", "()I"⟩, 17), (⟨"FlashWheelReaderModel", "isCell", "(I)Z"⟩, 17), (⟨"FlashWheelReaderModel", "becomes", "(II)I"⟩, 17), (⟨"FlashWheelReaderModel", "isChange", "(I)Z"⟩, 17), (⟨"FlashWheelReaderModel", "changeFrom", "(I)I"⟩, 17), (⟨"FlashWheelReaderModel", "tickOf", "(I)I"⟩, 17), (⟨"FlashWheelReaderModel", "laysTurns", "()V"⟩, 17), (⟨"FlashWheelReaderModel", "measure", "()I"⟩, 17)]
theorem lw_r2 : ∀ q ∈ lw_privs_2, lw_okq q := List.forall_mem_cons.mpr ⟨lw_p16, List.forall_mem_cons.mpr ⟨lw_p17, List.forall_mem_cons.mpr ⟨lw_p18, List.forall_mem_cons.mpr ⟨lw_p19, List.forall_mem_cons.mpr ⟨lw_p20, List.forall_mem_cons.mpr ⟨lw_p21, List.forall_mem_cons.mpr ⟨lw_p22, List.forall_mem_cons.mpr ⟨lw_p23, List.forall_mem_cons.mpr ⟨lw_p24, List.forall_mem_cons.mpr ⟨lw_p25, List.forall_mem_cons.mpr ⟨lw_p26, List.forall_mem_cons.mpr ⟨lw_p27, List.forall_mem_cons.mpr ⟨lw_p28, List.forall_mem_cons.mpr ⟨lw_p29, List.forall_mem_cons.mpr ⟨lw_p30, List.forall_mem_cons.mpr ⟨lw_p31, fun _ h => absurd h List.not_mem_nil⟩⟩⟩⟩⟩⟩⟩⟩⟩⟩⟩⟩⟩⟩⟩⟩
theorem lw_p32 : lw_okq (⟨"FlashWheelReaderModel", "seenAt", "(II)I"⟩, 17) := ⟨⟨by decide +kernel, by decide +kernel⟩, List.mem_of_getElem? (i := 706) (by decide +kernel), List.mem_of_getElem? (i := 882) (by decide +kernel), List.mem_of_getElem? (i := 883) (by decide +kernel)⟩
theorem lw_p33 : lw_okq (⟨"FlashWheelReaderModel", "flashes", "()I"⟩, 17) := ⟨⟨by decide +kernel, by decide +kernel⟩, List.mem_of_getElem? (i := 706) (by decide +kernel), List.mem_of_getElem? (i := 894) (by decide +kernel), List.mem_of_getElem? (i := 895) (by decide +kernel)⟩
theorem lw_p34 : lw_okq (⟨"FlashWheelReaderModel", "isFlash", "(I)Z"⟩, 17) := ⟨⟨by decide +kernel, by decide +kernel⟩, List.mem_of_getElem? (i := 706) (by decide +kernel), List.mem_of_getElem? (i := 902) (by decide +kernel), List.mem_of_getElem? (i := 903) (by decide +kernel)⟩
theorem lw_p35 : lw_okq (⟨"FlashWheelReaderModel", "tickOfFlash", "(I)I"⟩, 17) := ⟨⟨by decide +kernel, by decide +kernel⟩, List.mem_of_getElem? (i := 706) (by decide +kernel), List.mem_of_getElem? (i := 906) (by decide +kernel), List.mem_of_getElem? (i := 907) (by decide +kernel)⟩
theorem lw_p36 : lw_okq (⟨"FlashWheelReaderModel", "stepBehind", "(I)I"⟩, 17) := ⟨⟨by decide +kernel, by decide +kernel⟩, List.mem_of_getElem? (i := 706) (by decide +kernel), List.mem_of_getElem? (i := 910) (by decide +kernel), List.mem_of_getElem? (i := 911) (by decide +kernel)⟩
theorem lw_p37 : lw_okq (⟨"FlashWheelReaderModel", "stepOf", "(II)I"⟩, 17) := ⟨⟨by decide +kernel, by decide +kernel⟩, List.mem_of_getElem? (i := 706) (by decide +kernel), List.mem_of_getElem? (i := 914) (by decide +kernel), List.mem_of_getElem? (i := 915) (by decide +kernel)⟩
theorem lw_p38 : lw_okq (⟨"FlashWheelReaderModel", "earliest", "(I)I"⟩, 17) := ⟨⟨by decide +kernel, by decide +kernel⟩, List.mem_of_getElem? (i := 706) (by decide +kernel), List.mem_of_getElem? (i := 918) (by decide +kernel), List.mem_of_getElem? (i := 919) (by decide +kernel)⟩
theorem lw_p39 : lw_okq (⟨"FlashWheelReaderModel", "isSamePicture", "(II)Z"⟩, 17) := ⟨⟨by decide +kernel, by decide +kernel⟩, List.mem_of_getElem? (i := 706) (by decide +kernel), List.mem_of_getElem? (i := 922) (by decide +kernel), List.mem_of_getElem? (i := 923) (by decide +kernel)⟩
theorem lw_p40 : lw_okq (⟨"FlashWheelReaderModel", "pictures", "()I"⟩, 17) := ⟨⟨by decide +kernel, by decide +kernel⟩, List.mem_of_getElem? (i := 706) (by decide +kernel), List.mem_of_getElem? (i := 934) (by decide +kernel), List.mem_of_getElem? (i := 935) (by decide +kernel)⟩
theorem lw_p41 : lw_okq (⟨"FlashWheelReaderModel", "adds", "(II)I"⟩, 17) := ⟨⟨by decide +kernel, by decide +kernel⟩, List.mem_of_getElem? (i := 706) (by decide +kernel), List.mem_of_getElem? (i := 946) (by decide +kernel), List.mem_of_getElem? (i := 947) (by decide +kernel)⟩
theorem lw_p42 : lw_okq (⟨"FlashWheelReaderModel", "isReading", "(I)Z"⟩, 17) := ⟨⟨by decide +kernel, by decide +kernel⟩, List.mem_of_getElem? (i := 706) (by decide +kernel), List.mem_of_getElem? (i := 958) (by decide +kernel), List.mem_of_getElem? (i := 959) (by decide +kernel)⟩
theorem lw_p43 : lw_okq (⟨"FlashWheelReaderModel", "finds", "(I)V"⟩, 17) := ⟨⟨by decide +kernel, by decide +kernel⟩, List.mem_of_getElem? (i := 706) (by decide +kernel), List.mem_of_getElem? (i := 966) (by decide +kernel), List.mem_of_getElem? (i := 967) (by decide +kernel)⟩
theorem lw_p44 : lw_okq (⟨"FlashWheelReaderModel", "restOf", "(II)I"⟩, 17) := ⟨⟨by decide +kernel, by decide +kernel⟩, List.mem_of_getElem? (i := 706) (by decide +kernel), List.mem_of_getElem? (i := 997) (by decide +kernel), List.mem_of_getElem? (i := 998) (by decide +kernel)⟩
theorem lw_p45 : lw_okq (⟨"FlashWheelReaderModel", "isOpen", "(I)Z"⟩, 17) := ⟨⟨by decide +kernel, by decide +kernel⟩, List.mem_of_getElem? (i := 706) (by decide +kernel), List.mem_of_getElem? (i := 1013) (by decide +kernel), List.mem_of_getElem? (i := 1014) (by decide +kernel)⟩
theorem lw_p46 : lw_okq (⟨"FlashWheelReaderModel", "goesTo", "(I)I"⟩, 17) := ⟨⟨by decide +kernel, by decide +kernel⟩, List.mem_of_getElem? (i := 706) (by decide +kernel), List.mem_of_getElem? (i := 1021) (by decide +kernel), List.mem_of_getElem? (i := 1022) (by decide +kernel)⟩
theorem lw_p47 : lw_okq (⟨"FlashWheelReaderModel", "smeared", "()I"⟩, 17) := ⟨⟨by decide +kernel, by decide +kernel⟩, List.mem_of_getElem? (i := 706) (by decide +kernel), List.mem_of_getElem? (i := 1025) (by decide +kernel), List.mem_of_getElem? (i := 1026) (by decide +kernel)⟩
def lw_privs_3 : List (MethodName × Nat) := [(⟨"FlashWheelReaderModel", "seenAt", "(II)I"⟩, 17), (⟨"FlashWheelReaderModel", "flashes", "()I"⟩, 17), (⟨"FlashWheelReaderModel", "isFlash", "(I)Z"⟩, 17), (⟨"FlashWheelReaderModel", "tickOfFlash", "(I)I"⟩, 17), (⟨"FlashWheelReaderModel", "stepBehind", "(I)I"⟩, 17), (⟨"FlashWheelReaderModel", "stepOf", "(II)I"⟩, 17), (⟨"FlashWheelReaderModel", "earliest", "(I)I"⟩, 17), (⟨"FlashWheelReaderModel", "isSamePicture", "(II)Z"⟩, 17), (⟨"FlashWheelReaderModel", "pictures", "()I"⟩, 17), (⟨"FlashWheelReaderModel", "adds", "(II)I"⟩, 17), (⟨"FlashWheelReaderModel", "isReading", "(I)Z"⟩, 17), (⟨"FlashWheelReaderModel", "finds", "(I)V"⟩, 17), (⟨"FlashWheelReaderModel", "restOf", "(II)I"⟩, 17), (⟨"FlashWheelReaderModel", "isOpen", "(I)Z"⟩, 17), (⟨"FlashWheelReaderModel", "goesTo", "(I)I"⟩, 17), (⟨"FlashWheelReaderModel", "smeared", "()I"⟩, 17)]
theorem lw_r3 : ∀ q ∈ lw_privs_3, lw_okq q := List.forall_mem_cons.mpr ⟨lw_p32, List.forall_mem_cons.mpr ⟨lw_p33, List.forall_mem_cons.mpr ⟨lw_p34, List.forall_mem_cons.mpr ⟨lw_p35, List.forall_mem_cons.mpr ⟨lw_p36, List.forall_mem_cons.mpr ⟨lw_p37, List.forall_mem_cons.mpr ⟨lw_p38, List.forall_mem_cons.mpr ⟨lw_p39, List.forall_mem_cons.mpr ⟨lw_p40, List.forall_mem_cons.mpr ⟨lw_p41, List.forall_mem_cons.mpr ⟨lw_p42, List.forall_mem_cons.mpr ⟨lw_p43, List.forall_mem_cons.mpr ⟨lw_p44, List.forall_mem_cons.mpr ⟨lw_p45, List.forall_mem_cons.mpr ⟨lw_p46, List.forall_mem_cons.mpr ⟨lw_p47, fun _ h => absurd h List.not_mem_nil⟩⟩⟩⟩⟩⟩⟩⟩⟩⟩⟩⟩⟩⟩⟩⟩
theorem lw_p48 : lw_okq (⟨"FlashWheelReaderModel", "smearAt", "(I)I"⟩, 17) := ⟨⟨by decide +kernel, by decide +kernel⟩, List.mem_of_getElem? (i := 706) (by decide +kernel), List.mem_of_getElem? (i := 1029) (by decide +kernel), List.mem_of_getElem? (i := 1030) (by decide +kernel)⟩
theorem lw_p49 : lw_okq (⟨"FlashWheelReaderModel", "isStill", "()Z"⟩, 17) := ⟨⟨by decide +kernel, by decide +kernel⟩, List.mem_of_getElem? (i := 706) (by decide +kernel), List.mem_of_getElem? (i := 1033) (by decide +kernel), List.mem_of_getElem? (i := 1034) (by decide +kernel)⟩
theorem lw_p50 : lw_okq (⟨"FlashWheelReaderModel", "marks", "()I"⟩, 17) := ⟨⟨by decide +kernel, by decide +kernel⟩, List.mem_of_getElem? (i := 706) (by decide +kernel), List.mem_of_getElem? (i := 1045) (by decide +kernel), List.mem_of_getElem? (i := 1046) (by decide +kernel)⟩
theorem lw_p51 : lw_okq (⟨"FlashWheelReaderModel", "mixes", "(I)V"⟩, 17) := ⟨⟨by decide +kernel, by decide +kernel⟩, List.mem_of_getElem? (i := 706) (by decide +kernel), List.mem_of_getElem? (i := 1055) (by decide +kernel), List.mem_of_getElem? (i := 1056) (by decide +kernel)⟩
theorem lw_p52 : lw_okq (⟨"FlashWheelReaderModel", "mixesReadings", "()V"⟩, 17) := ⟨⟨by decide +kernel, by decide +kernel⟩, List.mem_of_getElem? (i := 706) (by decide +kernel), List.mem_of_getElem? (i := 1063) (by decide +kernel), List.mem_of_getElem? (i := 1064) (by decide +kernel)⟩
def lw_privs_4 : List (MethodName × Nat) := [(⟨"FlashWheelReaderModel", "smearAt", "(I)I"⟩, 17), (⟨"FlashWheelReaderModel", "isStill", "()Z"⟩, 17), (⟨"FlashWheelReaderModel", "marks", "()I"⟩, 17), (⟨"FlashWheelReaderModel", "mixes", "(I)V"⟩, 17), (⟨"FlashWheelReaderModel", "mixesReadings", "()V"⟩, 17)]
theorem lw_r4 : ∀ q ∈ lw_privs_4, lw_okq q := List.forall_mem_cons.mpr ⟨lw_p48, List.forall_mem_cons.mpr ⟨lw_p49, List.forall_mem_cons.mpr ⟨lw_p50, List.forall_mem_cons.mpr ⟨lw_p51, List.forall_mem_cons.mpr ⟨lw_p52, fun _ h => absurd h List.not_mem_nil⟩⟩⟩⟩⟩
def lw_privs : List (MethodName × Nat) := lw_privs_1 ++ (lw_privs_2 ++ (lw_privs_3 ++ (lw_privs_4)))
def lw_tbl : List Cond := k2_sels lw_privs ++ tables_1
theorem lw_privs_ok : ∀ q ∈ lw_privs, lw_okq q := by
  show ∀ q ∈ lw_privs_1 ++ (lw_privs_2 ++ (lw_privs_3 ++ (lw_privs_4))), lw_okq q
  exact List.forall_mem_append.mpr ⟨lw_r1, List.forall_mem_append.mpr ⟨lw_r2, List.forall_mem_append.mpr ⟨lw_r3, lw_r4⟩⟩⟩
def RX0 : String := "FlashWheelReader$Candidates"
def TX0 : u_T := fun k => match k with
  | 0 => ("FlashWheelReader$Candidates", "byRemainder", "[I", true)
  | 1 => ("FlashWheelReader$Candidates", "classes", "[I", true)
  | 2 => ("FlashWheelReader$Candidates", "measure", "I", false)
  | 3 => ("FlashWheelReader$Candidates", "limit", "I", false)
  | _ => ("FlashWheelReader$Candidates", "fitting", "J", false)
def tyX0 : Nat → FieldType := fun k => match k with
  | 0 => .array .int
  | 1 => .array .int
  | 2 => .int
  | 3 => .int
  | _ => .long
abbrev wsX00 : List Cond := u_ws RX0 TX0 5
theorem nmX0 : ∀ a, a < 5 → ∀ b, b < 5 → a ≠ b → (TX0 a).2.1 ≠ (TX0 b).2.1 := by decide +kernel
theorem tyX0_ok : ∀ k, k < 5 → parseFieldDescriptor (TX0 k).2.2.1 = some (tyX0 k) := by decide +kernel
abbrev cX0_init : ByteArray := prog_2_method_1_code
def yX0_init : MethodName := ⟨RX0, "<init>", "()V"⟩
abbrev cX0_find : ByteArray := prog_2_method_2_code
def yX0_find : MethodName := ⟨RX0, "find", "(ILFlashWheelReader$Readings;I)V"⟩
abbrev cX0_has : ByteArray := prog_2_method_3_code
def yX0_has : MethodName := ⟨RX0, "has", "(I)Z"⟩
abbrev cX0_number : ByteArray := prog_2_method_4_code
def yX0_number : MethodName := ⟨RX0, "number", "()I"⟩
abbrev cX0_inOrder : ByteArray := prog_2_method_5_code
def yX0_inOrder : MethodName := ⟨RX0, "inOrder", "(I)I"⟩
abbrev cX0_nearestTo : ByteArray := prog_2_method_6_code
def yX0_nearestTo : MethodName := ⟨RX0, "nearestTo", "(I)I"⟩
abbrev cX0_countByRemainder : ByteArray := prog_2_method_7_code
def yX0_countByRemainder : MethodName := ⟨RX0, "countByRemainder", "()V"⟩
abbrev cX0_restOf : ByteArray := prog_2_method_8_code
def yX0_restOf : MethodName := ⟨RX0, "restOf", "(I)I"⟩
def RX1 : String := "FlashWheelReader$Disc"
def TX1 : u_T := fun k => match k with
  | 0 => ("FlashWheelReader$Disc", "cells", "I", false)
  | 1 => ("FlashWheelReader$Disc", "open", "I", false)
  | 2 => ("FlashWheelReader$Disc", "start", "I", false)
  | _ => ("FlashWheelReader$Disc", "speed", "I", false)
def tyX1 : Nat → FieldType := fun k => match k with
  | 0 => .int
  | 1 => .int
  | 2 => .int
  | _ => .int
abbrev wsX10 : List Cond := u_ws RX1 TX1 4
theorem nmX1 : ∀ a, a < 4 → ∀ b, b < 4 → a ≠ b → (TX1 a).2.1 ≠ (TX1 b).2.1 := by decide +kernel
theorem tyX1_ok : ∀ k, k < 4 → parseFieldDescriptor (TX1 k).2.2.1 = some (tyX1 k) := by decide +kernel
abbrev cX1_init : ByteArray := prog_3_method_1_code
def yX1_init : MethodName := ⟨RX1, "<init>", "()V"⟩
abbrev cX1_copyFrom : ByteArray := prog_3_method_2_code
def yX1_copyFrom : MethodName := ⟨RX1, "copyFrom", "(LFlashWheelReader$Disc;)V"⟩
abbrev cX1_isOpenAt : ByteArray := prog_3_method_3_code
def yX1_isOpenAt : MethodName := ⟨RX1, "isOpenAt", "(I)Z"⟩
abbrev cX1_opensAt : ByteArray := prog_3_method_4_code
def yX1_opensAt : MethodName := ⟨RX1, "opensAt", "(I)Z"⟩
abbrev cX1_openings : ByteArray := prog_3_method_5_code
def yX1_openings : MethodName := ⟨RX1, "openings", "()I"⟩
abbrev cX1_firstTickOf : ByteArray := prog_3_method_6_code
def yX1_firstTickOf : MethodName := ⟨RX1, "firstTickOf", "(I)I"⟩
abbrev cX1_ticksFrom : ByteArray := prog_3_method_7_code
def yX1_ticksFrom : MethodName := ⟨RX1, "ticksFrom", "(I)I"⟩
def RX2 : String := "FlashWheelReader$Flashes"
def TX2 : u_T := fun k => match k with
  | 0 => ("FlashWheelReader$Flashes", "first", "I", false)
  | _ => ("FlashWheelReader$Flashes", "period", "I", false)
def tyX2 : Nat → FieldType := fun k => match k with
  | 0 => .int
  | _ => .int
abbrev wsX20 : List Cond := u_ws RX2 TX2 2
theorem nmX2 : ∀ a, a < 2 → ∀ b, b < 2 → a ≠ b → (TX2 a).2.1 ≠ (TX2 b).2.1 := by decide +kernel
theorem tyX2_ok : ∀ k, k < 2 → parseFieldDescriptor (TX2 k).2.2.1 = some (tyX2 k) := by decide +kernel
abbrev cX2_init : ByteArray := prog_4_method_1_code
def yX2_init : MethodName := ⟨RX2, "<init>", "()V"⟩
abbrev cX2_copyFrom : ByteArray := prog_4_method_2_code
def yX2_copyFrom : MethodName := ⟨RX2, "copyFrom", "(LFlashWheelReader$Flashes;)V"⟩
abbrev cX2_number : ByteArray := prog_4_method_3_code
def yX2_number : MethodName := ⟨RX2, "number", "()I"⟩
abbrev cX2_tickOf : ByteArray := prog_4_method_4_code
def yX2_tickOf : MethodName := ⟨RX2, "tickOf", "(I)I"⟩
def RX3 : String := "FlashWheelReader$History"
def TX3 : u_T := fun k => match k with
  | 0 => ("FlashWheelReader$History", "ring", "[LFlashWheelReader$State;", true)
  | 1 => ("FlashWheelReader$History", "next", "I", false)
  | _ => ("FlashWheelReader$History", "size", "I", false)
def tyX3 : Nat → FieldType := fun k => match k with
  | 0 => .array (.object "FlashWheelReader$State")
  | 1 => .int
  | _ => .int
abbrev wsX30 : List Cond := u_ws RX3 TX3 3
theorem nmX3 : ∀ a, a < 3 → ∀ b, b < 3 → a ≠ b → (TX3 a).2.1 ≠ (TX3 b).2.1 := by decide +kernel
theorem tyX3_ok : ∀ k, k < 3 → parseFieldDescriptor (TX3 k).2.2.1 = some (tyX3 k) := by decide +kernel
abbrev cX3_init : ByteArray := prog_5_method_1_code
def yX3_init : MethodName := ⟨RX3, "<init>", "()V"⟩
abbrev cX3_remember : ByteArray := prog_5_method_2_code
def yX3_remember : MethodName := ⟨RX3, "remember", "(LFlashWheelReader$State;)V"⟩
abbrev cX3_restore : ByteArray := prog_5_method_3_code
def yX3_restore : MethodName := ⟨RX3, "restore", "(LFlashWheelReader$State;)V"⟩
abbrev cX3_slotAt : ByteArray := prog_5_method_4_code
def yX3_slotAt : MethodName := ⟨RX3, "slotAt", "(I)LFlashWheelReader$State;"⟩
def RX4 : String := "FlashWheelReader$Readings"
def TX4 : u_T := fun k => match k with
  | 0 => ("FlashWheelReader$Readings", "ticks", "[I", true)
  | 1 => ("FlashWheelReader$Readings", "steps", "[I", true)
  | 2 => ("FlashWheelReader$Readings", "size", "I", false)
  | _ => ("FlashWheelReader$Readings", "limit", "I", false)
def tyX4 : Nat → FieldType := fun k => match k with
  | 0 => .array .int
  | 1 => .array .int
  | 2 => .int
  | _ => .int
abbrev wsX40 : List Cond := u_ws RX4 TX4 4
theorem nmX4 : ∀ a, a < 4 → ∀ b, b < 4 → a ≠ b → (TX4 a).2.1 ≠ (TX4 b).2.1 := by decide +kernel
theorem tyX4_ok : ∀ k, k < 4 → parseFieldDescriptor (TX4 k).2.2.1 = some (tyX4 k) := by decide +kernel
abbrev cX4_init : ByteArray := prog_6_method_1_code
def yX4_init : MethodName := ⟨RX4, "<init>", "()V"⟩
abbrev cX4_copyFrom : ByteArray := prog_6_method_2_code
def yX4_copyFrom : MethodName := ⟨RX4, "copyFrom", "(LFlashWheelReader$Readings;)V"⟩
abbrev cX4_add : ByteArray := prog_6_method_3_code
def yX4_add : MethodName := ⟨RX4, "add", "(II)V"⟩
abbrev cX4_remove : ByteArray := prog_6_method_4_code
def yX4_remove : MethodName := ⟨RX4, "remove", "(I)V"⟩
abbrev cX4_allFit : ByteArray := prog_6_method_5_code
def yX4_allFit : MethodName := ⟨RX4, "allFit", "(III)Z"⟩
def RX5 : String := "FlashWheelReader$State"
def TX5 : u_T := fun k => match k with
  | 0 => ("FlashWheelReader$State", "wheel", "LFlashWheelReader$Wheel;", true)
  | 1 => ("FlashWheelReader$State", "flashes", "LFlashWheelReader$Flashes;", true)
  | 2 => ("FlashWheelReader$State", "readings", "LFlashWheelReader$Readings;", true)
  | _ => ("FlashWheelReader$State", "disc", "LFlashWheelReader$Disc;", true)
def tyX5 : Nat → FieldType := fun k => match k with
  | 0 => .object "FlashWheelReader$Wheel"
  | 1 => .object "FlashWheelReader$Flashes"
  | 2 => .object "FlashWheelReader$Readings"
  | _ => .object "FlashWheelReader$Disc"
abbrev wsX50 : List Cond := u_ws RX5 TX5 4
theorem nmX5 : ∀ a, a < 4 → ∀ b, b < 4 → a ≠ b → (TX5 a).2.1 ≠ (TX5 b).2.1 := by decide +kernel
theorem tyX5_ok : ∀ k, k < 4 → parseFieldDescriptor (TX5 k).2.2.1 = some (tyX5 k) := by decide +kernel
abbrev cX5_init : ByteArray := prog_7_method_1_code
def yX5_init : MethodName := ⟨RX5, "<init>", "()V"⟩
abbrev cX5_copyFrom : ByteArray := prog_7_method_2_code
def yX5_copyFrom : MethodName := ⟨RX5, "copyFrom", "(LFlashWheelReader$State;)V"⟩
abbrev cX5_earliestAlike : ByteArray := prog_7_method_3_code
def yX5_earliestAlike : MethodName := ⟨RX5, "earliestAlike", "(I)I"⟩
abbrev cX5_countSeeming : ByteArray := prog_7_method_4_code
def yX5_countSeeming : MethodName := ⟨RX5, "countSeeming", "(I)I"⟩
abbrev cX5_differentPictures : ByteArray := prog_7_method_5_code
def yX5_differentPictures : MethodName := ⟨RX5, "differentPictures", "()I"⟩
def RX6 : String := "FlashWheelReader$Wheel"
def TX6 : u_T := fun k => match k with
  | 0 => ("FlashWheelReader$Wheel", "marks", "[I", true)
  | 1 => ("FlashWheelReader$Wheel", "changeTicks", "[I", true)
  | 2 => ("FlashWheelReader$Wheel", "changeSpeeds", "[I", true)
  | 3 => ("FlashWheelReader$Wheel", "cells", "I", false)
  | 4 => ("FlashWheelReader$Wheel", "start", "I", false)
  | 5 => ("FlashWheelReader$Wheel", "speed", "I", false)
  | _ => ("FlashWheelReader$Wheel", "changes", "I", false)
def tyX6 : Nat → FieldType := fun k => match k with
  | 0 => .array .int
  | 1 => .array .int
  | 2 => .array .int
  | 3 => .int
  | 4 => .int
  | 5 => .int
  | _ => .int
abbrev wsX60 : List Cond := u_ws RX6 TX6 7
theorem nmX6 : ∀ a, a < 7 → ∀ b, b < 7 → a ≠ b → (TX6 a).2.1 ≠ (TX6 b).2.1 := by decide +kernel
theorem tyX6_ok : ∀ k, k < 7 → parseFieldDescriptor (TX6 k).2.2.1 = some (tyX6 k) := by decide +kernel
abbrev cX6_init : ByteArray := prog_8_method_1_code
def yX6_init : MethodName := ⟨RX6, "<init>", "()V"⟩
abbrev cX6_copyFrom : ByteArray := prog_8_method_2_code
def yX6_copyFrom : MethodName := ⟨RX6, "copyFrom", "(LFlashWheelReader$Wheel;)V"⟩
abbrev cX6_empty : ByteArray := prog_8_method_3_code
def yX6_empty : MethodName := ⟨RX6, "empty", "()V"⟩
abbrev cX6_addCell : ByteArray := prog_8_method_4_code
def yX6_addCell : MethodName := ⟨RX6, "addCell", "(I)V"⟩
abbrev cX6_markOf : ByteArray := prog_8_method_5_code
def yX6_markOf : MethodName := ⟨RX6, "markOf", "(I)I"⟩
abbrev cX6_markedCells : ByteArray := prog_8_method_6_code
def yX6_markedCells : MethodName := ⟨RX6, "markedCells", "()I"⟩
abbrev cX6_measure : ByteArray := prog_8_method_7_code
def yX6_measure : MethodName := ⟨RX6, "measure", "()I"⟩
abbrev cX6_isSameTurnedBy : ByteArray := prog_8_method_8_code
def yX6_isSameTurnedBy : MethodName := ⟨RX6, "isSameTurnedBy", "(I)Z"⟩
abbrev cX6_placeOfChange : ByteArray := prog_8_method_9_code
def yX6_placeOfChange : MethodName := ⟨RX6, "placeOfChange", "(I)I"⟩
abbrev cX6_hasChange : ByteArray := prog_8_method_10_code
def yX6_hasChange : MethodName := ⟨RX6, "hasChange", "(I)Z"⟩
abbrev cX6_hasRoomFor : ByteArray := prog_8_method_11_code
def yX6_hasRoomFor : MethodName := ⟨RX6, "hasRoomFor", "(I)Z"⟩
abbrev cX6_putSpeed : ByteArray := prog_8_method_12_code
def yX6_putSpeed : MethodName := ⟨RX6, "putSpeed", "(II)V"⟩
abbrev cX6_insertChange : ByteArray := prog_8_method_13_code
def yX6_insertChange : MethodName := ⟨RX6, "insertChange", "(I)V"⟩
abbrev cX6_removeChange : ByteArray := prog_8_method_14_code
def yX6_removeChange : MethodName := ⟨RX6, "removeChange", "(I)V"⟩
abbrev cX6_turnAt : ByteArray := prog_8_method_15_code
def yX6_turnAt : MethodName := ⟨RX6, "turnAt", "(I)I"⟩
abbrev cX6_stepBetween : ByteArray := prog_8_method_16_code
def yX6_stepBetween : MethodName := ⟨RX6, "stepBetween", "(III)I"⟩
abbrev cX6_turnsModulo : ByteArray := prog_8_method_17_code
def yX6_turnsModulo : MethodName := ⟨RX6, "turnsModulo", "(IIII)J"⟩
abbrev cX6_looksTheSame : ByteArray := prog_8_method_18_code
def yX6_looksTheSame : MethodName := ⟨RX6, "looksTheSame", "(II)Z"⟩
abbrev cX6_smearedPlaces : ByteArray := prog_8_method_19_code
def yX6_smearedPlaces : MethodName := ⟨RX6, "smearedPlaces", "(II)I"⟩
abbrev cX6_marksPassing : ByteArray := prog_8_method_20_code
def yX6_marksPassing : MethodName := ⟨RX6, "marksPassing", "(IJ)I"⟩
def RX7 : String := "FlashWheelReader$WheelText"
def TX7 : u_T := fun k => match k with
  | 0 => ("FlashWheelReader$WheelText", "codes", "[I", true)
  | 1 => ("FlashWheelReader$WheelText", "next", "I", false)
  | 2 => ("FlashWheelReader$WheelText", "length", "I", false)
  | 3 => ("FlashWheelReader$WheelText", "fault", "I", false)
  | _ => ("FlashWheelReader$WheelText", "faultIndex", "I", false)
def tyX7 : Nat → FieldType := fun k => match k with
  | 0 => .array .int
  | 1 => .int
  | 2 => .int
  | 3 => .int
  | _ => .int
abbrev wsX70 : List Cond := u_ws RX7 TX7 5
theorem nmX7 : ∀ a, a < 5 → ∀ b, b < 5 → a ≠ b → (TX7 a).2.1 ≠ (TX7 b).2.1 := by decide +kernel
theorem tyX7_ok : ∀ k, k < 5 → parseFieldDescriptor (TX7 k).2.2.1 = some (tyX7 k) := by decide +kernel
abbrev cX7_init : ByteArray := prog_9_method_1_code
def yX7_init : MethodName := ⟨RX7, "<init>", "()V"⟩
abbrev cX7_append : ByteArray := prog_9_method_2_code
def yX7_append : MethodName := ⟨RX7, "append", "(I)V"⟩
abbrev cX7_readInto : ByteArray := prog_9_method_3_code
def yX7_readInto : MethodName := ⟨RX7, "readInto", "(LFlashWheelReader$Wheel;)Z"⟩
abbrev cX7_readCells : ByteArray := prog_9_method_4_code
def yX7_readCells : MethodName := ⟨RX7, "readCells", "(LFlashWheelReader$Wheel;)V"⟩
abbrev cX7_readSpeed : ByteArray := prog_9_method_5_code
def yX7_readSpeed : MethodName := ⟨RX7, "readSpeed", "()I"⟩
abbrev cX7_readNumber : ByteArray := prog_9_method_6_code
def yX7_readNumber : MethodName := ⟨RX7, "readNumber", "(II)I"⟩
abbrev cX7_takes : ByteArray := prog_9_method_7_code
def yX7_takes : MethodName := ⟨RX7, "takes", "(I)Z"⟩
abbrev cX7_code : ByteArray := prog_9_method_8_code
def yX7_code : MethodName := ⟨RX7, "code", "()I"⟩
abbrev cX7_tellFault : ByteArray := prog_9_method_9_code
def yX7_tellFault : MethodName := ⟨RX7, "tellFault", "(II)V"⟩
abbrev cX7_isCell : ByteArray := prog_9_method_10_code
def yX7_isCell : MethodName := ⟨RX7, "isCell", "(I)Z"⟩
abbrev cX7_isDigit : ByteArray := prog_9_method_11_code
def yX7_isDigit : MethodName := ⟨RX7, "isDigit", "(I)Z"⟩
def RX8 : String := "FlashWheelReader"
def TX8 : u_T := fun k => match k with
  | 0 => ("FlashWheelReader", "now", "LFlashWheelReader$State;", true)
  | 1 => ("FlashWheelReader", "history", "LFlashWheelReader$History;", true)
  | 2 => ("FlashWheelReader", "text", "LFlashWheelReader$WheelText;", true)
  | 3 => ("FlashWheelReader", "loaded", "LFlashWheelReader$Wheel;", true)
  | _ => ("FlashWheelReader", "found", "LFlashWheelReader$Candidates;", true)
def tyX8 : Nat → FieldType := fun k => match k with
  | 0 => .object "FlashWheelReader$State"
  | 1 => .object "FlashWheelReader$History"
  | 2 => .object "FlashWheelReader$WheelText"
  | 3 => .object "FlashWheelReader$Wheel"
  | _ => .object "FlashWheelReader$Candidates"
abbrev wsX80 : List Cond := u_ws RX8 TX8 5
theorem nmX8 : ∀ a, a < 5 → ∀ b, b < 5 → a ≠ b → (TX8 a).2.1 ≠ (TX8 b).2.1 := by decide +kernel
theorem tyX8_ok : ∀ k, k < 5 → parseFieldDescriptor (TX8 k).2.2.1 = some (tyX8 k) := by decide +kernel
abbrev cX8_init : ByteArray := prog_1_method_1_code
def yX8_init : MethodName := ⟨RX8, "<init>", "()V"⟩
abbrev cX8_type : ByteArray := prog_1_method_2_code
def yX8_type : MethodName := ⟨RX8, "type", "(I)I"⟩
abbrev cX8_clearText : ByteArray := prog_1_method_3_code
def yX8_clearText : MethodName := ⟨RX8, "clearText", "()I"⟩
abbrev cX8_load : ByteArray := prog_1_method_4_code
def yX8_load : MethodName := ⟨RX8, "load", "()I"⟩
abbrev cX8_faultKind : ByteArray := prog_1_method_5_code
def yX8_faultKind : MethodName := ⟨RX8, "faultKind", "()I"⟩
abbrev cX8_setMark : ByteArray := prog_1_method_6_code
def yX8_setMark : MethodName := ⟨RX8, "setMark", "(II)I"⟩
abbrev cX8_setStart : ByteArray := prog_1_method_7_code
def yX8_setStart : MethodName := ⟨RX8, "setStart", "(I)I"⟩
abbrev cX8_setSpeed : ByteArray := prog_1_method_8_code
def yX8_setSpeed : MethodName := ⟨RX8, "setSpeed", "(II)I"⟩
abbrev cX8_dropChange : ByteArray := prog_1_method_9_code
def yX8_dropChange : MethodName := ⟨RX8, "dropChange", "(I)I"⟩
abbrev cX8_markAt : ByteArray := prog_1_method_10_code
def yX8_markAt : MethodName := ⟨RX8, "markAt", "(II)I"⟩
abbrev cX8_turn : ByteArray := prog_1_method_11_code
def yX8_turn : MethodName := ⟨RX8, "turn", "(I)I"⟩
abbrev cX8_setFlash : ByteArray := prog_1_method_12_code
def yX8_setFlash : MethodName := ⟨RX8, "setFlash", "(II)I"⟩
abbrev cX8_flash : ByteArray := prog_1_method_13_code
def yX8_flash : MethodName := ⟨RX8, "flash", "(II)I"⟩
abbrev cX8_step : ByteArray := prog_1_method_14_code
def yX8_step : MethodName := ⟨RX8, "step", "(II)I"⟩
abbrev cX8_seems : ByteArray := prog_1_method_15_code
def yX8_seems : MethodName := ⟨RX8, "seems", "(I)I"⟩
abbrev cX8_stillPeriod : ByteArray := prog_1_method_16_code
def yX8_stillPeriod : MethodName := ⟨RX8, "stillPeriod", "(II)I"⟩
abbrev cX8_read : ByteArray := prog_1_method_17_code
def yX8_read : MethodName := ⟨RX8, "read", "(II)I"⟩
abbrev cX8_look : ByteArray := prog_1_method_18_code
def yX8_look : MethodName := ⟨RX8, "look", "(I)I"⟩
abbrev cX8_dropReading : ByteArray := prog_1_method_19_code
def yX8_dropReading : MethodName := ⟨RX8, "dropReading", "(I)I"⟩
abbrev cX8_reading : ByteArray := prog_1_method_20_code
def yX8_reading : MethodName := ⟨RX8, "reading", "(II)I"⟩
abbrev cX8_setLimit : ByteArray := prog_1_method_21_code
def yX8_setLimit : MethodName := ⟨RX8, "setLimit", "(I)I"⟩
abbrev cX8_candidates : ByteArray := prog_1_method_22_code
def yX8_candidates : MethodName := ⟨RX8, "candidates", "()I"⟩
abbrev cX8_candidate : ByteArray := prog_1_method_23_code
def yX8_candidate : MethodName := ⟨RX8, "candidate", "(I)I"⟩
abbrev cX8_nearest : ByteArray := prog_1_method_24_code
def yX8_nearest : MethodName := ⟨RX8, "nearest", "(I)I"⟩
abbrev cX8_odd : ByteArray := prog_1_method_25_code
def yX8_odd : MethodName := ⟨RX8, "odd", "()I"⟩
abbrev cX8_bestPeriod : ByteArray := prog_1_method_26_code
def yX8_bestPeriod : MethodName := ⟨RX8, "bestPeriod", "(IZ)I"⟩
abbrev cX8_setDisc : ByteArray := prog_1_method_27_code
def yX8_setDisc : MethodName := ⟨RX8, "setDisc", "(II)I"⟩
abbrev cX8_turnDisc : ByteArray := prog_1_method_28_code
def yX8_turnDisc : MethodName := ⟨RX8, "turnDisc", "(II)I"⟩
abbrev cX8_isSeen : ByteArray := prog_1_method_29_code
def yX8_isSeen : MethodName := ⟨RX8, "isSeen", "(I)I"⟩
abbrev cX8_opening : ByteArray := prog_1_method_30_code
def yX8_opening : MethodName := ⟨RX8, "opening", "(II)I"⟩
abbrev cX8_smear : ByteArray := prog_1_method_31_code
def yX8_smear : MethodName := ⟨RX8, "smear", "(II)I"⟩
abbrev cX8_undo : ByteArray := prog_1_method_32_code
def yX8_undo : MethodName := ⟨RX8, "undo", "()I"⟩
abbrev cX8_count : ByteArray := prog_1_method_33_code
def yX8_count : MethodName := ⟨RX8, "count", "(I)I"⟩
abbrev cX8_digest : ByteArray := prog_1_method_34_code
def yX8_digest : MethodName := ⟨RX8, "digest", "()J"⟩
abbrev cX8_digestOfPictures : ByteArray := prog_1_method_35_code
def yX8_digestOfPictures : MethodName := ⟨RX8, "digestOfPictures", "(J)J"⟩
abbrev cX8_digestOfReadings : ByteArray := prog_1_method_36_code
def yX8_digestOfReadings : MethodName := ⟨RX8, "digestOfReadings", "(J)J"⟩
abbrev cX8_digestOfOpenings : ByteArray := prog_1_method_37_code
def yX8_digestOfOpenings : MethodName := ⟨RX8, "digestOfOpenings", "(J)J"⟩
abbrev cX8_addReading : ByteArray := prog_1_method_38_code
def yX8_addReading : MethodName := ⟨RX8, "addReading", "(II)I"⟩
abbrev cX8_findWithout : ByteArray := prog_1_method_39_code
def yX8_findWithout : MethodName := ⟨RX8, "findWithout", "(I)LFlashWheelReader$Candidates;"⟩
abbrev cX8_isPlace : ByteArray := prog_1_method_40_code
def yX8_isPlace : MethodName := ⟨RX8, "isPlace", "(I)Z"⟩
abbrev cX8_isFlash : ByteArray := prog_1_method_41_code
def yX8_isFlash : MethodName := ⟨RX8, "isFlash", "(I)Z"⟩
abbrev cX8_isReading : ByteArray := prog_1_method_42_code
def yX8_isReading : MethodName := ⟨RX8, "isReading", "(I)Z"⟩
abbrev cX8_isTick : ByteArray := prog_1_method_43_code
def yX8_isTick : MethodName := ⟨RX8, "isTick", "(I)Z"⟩
abbrev cX8_within : ByteArray := prog_1_method_44_code
def yX8_within : MethodName := ⟨RX8, "within", "(III)Z"⟩
abbrev cX8_mod : ByteArray := prog_1_method_45_code
def yX8_mod : MethodName := ⟨RX8, "mod", "(II)I"⟩
abbrev cX8_hasBit : ByteArray := prog_1_method_46_code
def yX8_hasBit : MethodName := ⟨RX8, "hasBit", "(JI)Z"⟩
abbrev cX8_at : ByteArray := prog_1_method_47_code
def yX8_at : MethodName := ⟨RX8, "at", "([II)I"⟩
abbrev cX8_put : ByteArray := prog_1_method_48_code
def yX8_put : MethodName := ⟨RX8, "put", "([III)V"⟩
abbrev cX8_copyRow : ByteArray := prog_1_method_49_code
def yX8_copyRow : MethodName := ⟨RX8, "copyRow", "([I[I)V"⟩
def RX9 : String := "FlashWheelReaderModel"
def TX9 : u_T := fun k => match k with
  | 0 => ("FlashWheelReaderModel", "page", "[I", true)
  | 1 => ("FlashWheelReaderModel", "backMany", "I", false)
  | 2 => ("FlashWheelReaderModel", "turns", "[I", true)
  | 3 => ("FlashWheelReaderModel", "around", "I", false)
  | 4 => ("FlashWheelReaderModel", "text", "[I", true)
  | 5 => ("FlashWheelReaderModel", "typed", "I", false)
  | 6 => ("FlashWheelReaderModel", "fault", "I", false)
  | 7 => ("FlashWheelReaderModel", "faultAt", "I", false)
  | 8 => ("FlashWheelReaderModel", "spot", "I", false)
  | 9 => ("FlashWheelReaderModel", "number", "I", false)
  | 10 => ("FlashWheelReaderModel", "was", "[Z", true)
  | 11 => ("FlashWheelReaderModel", "found", "[I", true)
  | 12 => ("FlashWheelReaderModel", "foundMany", "I", false)
  | 13 => ("FlashWheelReaderModel", "classes", "[I", true)
  | 14 => ("FlashWheelReaderModel", "openingFrom", "I", false)
  | 15 => ("FlashWheelReaderModel", "openingTo", "I", false)
  | _ => ("FlashWheelReaderModel", "hash", "J", false)
def tyX9 : Nat → FieldType := fun k => match k with
  | 0 => .array .int
  | 1 => .int
  | 2 => .array .int
  | 3 => .int
  | 4 => .array .int
  | 5 => .int
  | 6 => .int
  | 7 => .int
  | 8 => .int
  | 9 => .int
  | 10 => .array .boolean
  | 11 => .array .int
  | 12 => .int
  | 13 => .array .int
  | 14 => .int
  | 15 => .int
  | _ => .long
abbrev wsX90 : List Cond := u_ws RX9 TX9 17
theorem nmX9 : ∀ a, a < 17 → ∀ b, b < 17 → a ≠ b → (TX9 a).2.1 ≠ (TX9 b).2.1 := by decide +kernel
theorem tyX9_ok : ∀ k, k < 17 → parseFieldDescriptor (TX9 k).2.2.1 = some (tyX9 k) := by decide +kernel
abbrev cX9_init : ByteArray := prog_11_method_1_code
def yX9_init : MethodName := ⟨RX9, "<init>", "()V"⟩
abbrev cX9_in : ByteArray := prog_11_method_3_code
def yX9_in : MethodName := ⟨RX9, "in", "(III)Z"⟩
abbrev cX9_copies : ByteArray := prog_11_method_4_code
def yX9_copies : MethodName := ⟨RX9, "copies", "(II)V"⟩
abbrev cX9_records : ByteArray := prog_11_method_5_code
def yX9_records : MethodName := ⟨RX9, "records", "()V"⟩
abbrev cX9_undo : ByteArray := prog_11_method_6_code
def yX9_undo : MethodName := ⟨RX9, "undo", "()I"⟩
abbrev cX9_modulo : ByteArray := prog_11_method_7_code
def yX9_modulo : MethodName := ⟨RX9, "modulo", "(II)I"⟩
abbrev cX9_cells : ByteArray := prog_11_method_8_code
def yX9_cells : MethodName := ⟨RX9, "cells", "()I"⟩
abbrev cX9_measure : ByteArray := prog_11_method_9_code
def yX9_measure : MethodName := ⟨RX9, "measure", "()I"⟩
abbrev cX9_tickOf : ByteArray := prog_11_method_10_code
def yX9_tickOf : MethodName := ⟨RX9, "tickOf", "(I)I"⟩
abbrev cX9_laysTurns : ByteArray := prog_11_method_11_code
def yX9_laysTurns : MethodName := ⟨RX9, "laysTurns", "()V"⟩
abbrev cX9_isTick : ByteArray := prog_11_method_12_code
def yX9_isTick : MethodName := ⟨RX9, "isTick", "(I)Z"⟩
abbrev cX9_isCell : ByteArray := prog_11_method_13_code
def yX9_isCell : MethodName := ⟨RX9, "isCell", "(I)Z"⟩
abbrev cX9_seenAt : ByteArray := prog_11_method_14_code
def yX9_seenAt : MethodName := ⟨RX9, "seenAt", "(II)I"⟩
abbrev cX9_stepOf : ByteArray := prog_11_method_15_code
def yX9_stepOf : MethodName := ⟨RX9, "stepOf", "(II)I"⟩
abbrev cX9_isSamePicture : ByteArray := prog_11_method_16_code
def yX9_isSamePicture : MethodName := ⟨RX9, "isSamePicture", "(II)Z"⟩
abbrev cX9_type : ByteArray := prog_11_method_17_code
def yX9_type : MethodName := ⟨RX9, "type", "(I)I"⟩
abbrev cX9_clearText : ByteArray := prog_11_method_18_code
def yX9_clearText : MethodName := ⟨RX9, "clearText", "()I"⟩
abbrev cX9_here : ByteArray := prog_11_method_19_code
def yX9_here : MethodName := ⟨RX9, "here", "()I"⟩
abbrev cX9_isDigit : ByteArray := prog_11_method_20_code
def yX9_isDigit : MethodName := ⟨RX9, "isDigit", "()Z"⟩
abbrev cX9_fails : ByteArray := prog_11_method_21_code
def yX9_fails : MethodName := ⟨RX9, "fails", "(II)Z"⟩
abbrev cX9_readsNumber : ByteArray := prog_11_method_22_code
def yX9_readsNumber : MethodName := ⟨RX9, "readsNumber", "(IIII)Z"⟩
abbrev cX9_readsCells : ByteArray := prog_11_method_23_code
def yX9_readsCells : MethodName := ⟨RX9, "readsCells", "()Z"⟩
abbrev cX9_readsStart : ByteArray := prog_11_method_24_code
def yX9_readsStart : MethodName := ⟨RX9, "readsStart", "()Z"⟩
abbrev cX9_readsSpeed : ByteArray := prog_11_method_25_code
def yX9_readsSpeed : MethodName := ⟨RX9, "readsSpeed", "()Z"⟩
abbrev cX9_load : ByteArray := prog_11_method_26_code
def yX9_load : MethodName := ⟨RX9, "load", "()I"⟩
abbrev cX9_faultKind : ByteArray := prog_11_method_27_code
def yX9_faultKind : MethodName := ⟨RX9, "faultKind", "()I"⟩
abbrev cX9_becomes : ByteArray := prog_11_method_28_code
def yX9_becomes : MethodName := ⟨RX9, "becomes", "(II)I"⟩
abbrev cX9_setMark : ByteArray := prog_11_method_29_code
def yX9_setMark : MethodName := ⟨RX9, "setMark", "(II)I"⟩
abbrev cX9_setStart : ByteArray := prog_11_method_30_code
def yX9_setStart : MethodName := ⟨RX9, "setStart", "(I)I"⟩
abbrev cX9_changeFrom : ByteArray := prog_11_method_31_code
def yX9_changeFrom : MethodName := ⟨RX9, "changeFrom", "(I)I"⟩
abbrev cX9_isChange : ByteArray := prog_11_method_32_code
def yX9_isChange : MethodName := ⟨RX9, "isChange", "(I)Z"⟩
abbrev cX9_setSpeed : ByteArray := prog_11_method_33_code
def yX9_setSpeed : MethodName := ⟨RX9, "setSpeed", "(II)I"⟩
abbrev cX9_dropChange : ByteArray := prog_11_method_34_code
def yX9_dropChange : MethodName := ⟨RX9, "dropChange", "(I)I"⟩
abbrev cX9_markAt : ByteArray := prog_11_method_35_code
def yX9_markAt : MethodName := ⟨RX9, "markAt", "(II)I"⟩
abbrev cX9_turn : ByteArray := prog_11_method_36_code
def yX9_turn : MethodName := ⟨RX9, "turn", "(I)I"⟩
abbrev cX9_flashes : ByteArray := prog_11_method_37_code
def yX9_flashes : MethodName := ⟨RX9, "flashes", "()I"⟩
abbrev cX9_tickOfFlash : ByteArray := prog_11_method_38_code
def yX9_tickOfFlash : MethodName := ⟨RX9, "tickOfFlash", "(I)I"⟩
abbrev cX9_isFlash : ByteArray := prog_11_method_39_code
def yX9_isFlash : MethodName := ⟨RX9, "isFlash", "(I)Z"⟩
abbrev cX9_setFlash : ByteArray := prog_11_method_40_code
def yX9_setFlash : MethodName := ⟨RX9, "setFlash", "(II)I"⟩
abbrev cX9_earliest : ByteArray := prog_11_method_41_code
def yX9_earliest : MethodName := ⟨RX9, "earliest", "(I)I"⟩
abbrev cX9_stepBehind : ByteArray := prog_11_method_42_code
def yX9_stepBehind : MethodName := ⟨RX9, "stepBehind", "(I)I"⟩
abbrev cX9_flash : ByteArray := prog_11_method_43_code
def yX9_flash : MethodName := ⟨RX9, "flash", "(II)I"⟩
abbrev cX9_step : ByteArray := prog_11_method_44_code
def yX9_step : MethodName := ⟨RX9, "step", "(II)I"⟩
abbrev cX9_pictures : ByteArray := prog_11_method_45_code
def yX9_pictures : MethodName := ⟨RX9, "pictures", "()I"⟩
abbrev cX9_seems : ByteArray := prog_11_method_46_code
def yX9_seems : MethodName := ⟨RX9, "seems", "(I)I"⟩
abbrev cX9_stillPeriod : ByteArray := prog_11_method_47_code
def yX9_stillPeriod : MethodName := ⟨RX9, "stillPeriod", "(II)I"⟩
abbrev cX9_isReading : ByteArray := prog_11_method_48_code
def yX9_isReading : MethodName := ⟨RX9, "isReading", "(I)Z"⟩
abbrev cX9_adds : ByteArray := prog_11_method_49_code
def yX9_adds : MethodName := ⟨RX9, "adds", "(II)I"⟩
abbrev cX9_read : ByteArray := prog_11_method_50_code
def yX9_read : MethodName := ⟨RX9, "read", "(II)I"⟩
abbrev cX9_look : ByteArray := prog_11_method_51_code
def yX9_look : MethodName := ⟨RX9, "look", "(I)I"⟩
abbrev cX9_dropReading : ByteArray := prog_11_method_52_code
def yX9_dropReading : MethodName := ⟨RX9, "dropReading", "(I)I"⟩
abbrev cX9_finds : ByteArray := prog_11_method_53_code
def yX9_finds : MethodName := ⟨RX9, "finds", "(I)V"⟩
abbrev cX9_reading : ByteArray := prog_11_method_54_code
def yX9_reading : MethodName := ⟨RX9, "reading", "(II)I"⟩
abbrev cX9_setLimit : ByteArray := prog_11_method_55_code
def yX9_setLimit : MethodName := ⟨RX9, "setLimit", "(I)I"⟩
abbrev cX9_candidates : ByteArray := prog_11_method_56_code
def yX9_candidates : MethodName := ⟨RX9, "candidates", "()I"⟩
abbrev cX9_candidate : ByteArray := prog_11_method_57_code
def yX9_candidate : MethodName := ⟨RX9, "candidate", "(I)I"⟩
abbrev cX9_apart : ByteArray := prog_11_method_58_code
def yX9_apart : MethodName := ⟨RX9, "apart", "(II)I"⟩
abbrev cX9_nearest : ByteArray := prog_11_method_59_code
def yX9_nearest : MethodName := ⟨RX9, "nearest", "(I)I"⟩
abbrev cX9_odd : ByteArray := prog_11_method_60_code
def yX9_odd : MethodName := ⟨RX9, "odd", "()I"⟩
abbrev cX9_restOf : ByteArray := prog_11_method_61_code
def yX9_restOf : MethodName := ⟨RX9, "restOf", "(II)I"⟩
abbrev cX9_bestPeriod : ByteArray := prog_11_method_62_code
def yX9_bestPeriod : MethodName := ⟨RX9, "bestPeriod", "(IZ)I"⟩
abbrev cX9_setDisc : ByteArray := prog_11_method_63_code
def yX9_setDisc : MethodName := ⟨RX9, "setDisc", "(II)I"⟩
abbrev cX9_turnDisc : ByteArray := prog_11_method_64_code
def yX9_turnDisc : MethodName := ⟨RX9, "turnDisc", "(II)I"⟩
abbrev cX9_isOpen : ByteArray := prog_11_method_65_code
def yX9_isOpen : MethodName := ⟨RX9, "isOpen", "(I)Z"⟩
abbrev cX9_isSeen : ByteArray := prog_11_method_66_code
def yX9_isSeen : MethodName := ⟨RX9, "isSeen", "(I)I"⟩
abbrev cX9_goesTo : ByteArray := prog_11_method_67_code
def yX9_goesTo : MethodName := ⟨RX9, "goesTo", "(I)I"⟩
abbrev cX9_smearAt : ByteArray := prog_11_method_68_code
def yX9_smearAt : MethodName := ⟨RX9, "smearAt", "(I)I"⟩
abbrev cX9_smeared : ByteArray := prog_11_method_69_code
def yX9_smeared : MethodName := ⟨RX9, "smeared", "()I"⟩
abbrev cX9_isStill : ByteArray := prog_11_method_70_code
def yX9_isStill : MethodName := ⟨RX9, "isStill", "()Z"⟩
abbrev cX9_opening : ByteArray := prog_11_method_71_code
def yX9_opening : MethodName := ⟨RX9, "opening", "(II)I"⟩
abbrev cX9_smear : ByteArray := prog_11_method_72_code
def yX9_smear : MethodName := ⟨RX9, "smear", "(II)I"⟩
abbrev cX9_marks : ByteArray := prog_11_method_73_code
def yX9_marks : MethodName := ⟨RX9, "marks", "()I"⟩
abbrev cX9_count : ByteArray := prog_11_method_74_code
def yX9_count : MethodName := ⟨RX9, "count", "(I)I"⟩
abbrev cX9_mixes : ByteArray := prog_11_method_75_code
def yX9_mixes : MethodName := ⟨RX9, "mixes", "(I)V"⟩
abbrev cX9_mixesReadings : ByteArray := prog_11_method_76_code
def yX9_mixesReadings : MethodName := ⟨RX9, "mixesReadings", "()V"⟩
abbrev cX9_digest : ByteArray := prog_11_method_77_code
def yX9_digest : MethodName := ⟨RX9, "digest", "()J"⟩
def RJ6 : String := "java/lang/Integer"
def TJ6 : u_T := fun k => match k with
  | _ => ("", "", "", false)
def tyJ6 : Nat → FieldType := fun k => match k with
  | _ => .int
abbrev wsJ60 : List Cond := u_ws RJ6 TJ6 0
theorem nmJ6 : ∀ a, a < 0 → ∀ b, b < 0 → a ≠ b → (TJ6 a).2.1 ≠ (TJ6 b).2.1 := by decide +kernel
theorem tyJ6_ok : ∀ k, k < 0 → parseFieldDescriptor (TJ6 k).2.2.1 = some (tyJ6 k) := by decide +kernel
abbrev cJ6_bitCount_0f7a4 : ByteArray := prog_12_method_49_code
def yJ6_bitCount_0f7a4 : MethodName := ⟨RJ6, "bitCount", "(I)I"⟩
def RJ13 : String := "java/lang/Long"
def TJ13 : u_T := fun k => match k with
  | _ => ("", "", "", false)
def tyJ13 : Nat → FieldType := fun k => match k with
  | _ => .int
abbrev wsJ130 : List Cond := u_ws RJ13 TJ13 0
theorem nmJ13 : ∀ a, a < 0 → ∀ b, b < 0 → a ≠ b → (TJ13 a).2.1 ≠ (TJ13 b).2.1 := by decide +kernel
theorem tyJ13_ok : ∀ k, k < 0 → parseFieldDescriptor (TJ13 k).2.2.1 = some (tyJ13 k) := by decide +kernel
abbrev cJ13_bitCount_95d88 : ByteArray := prog_13_method_50_code
def yJ13_bitCount_95d88 : MethodName := ⟨RJ13, "bitCount", "(J)I"⟩
def RJ9 : String := "java/lang/Math"
def TJ9 : u_T := fun k => match k with
  | _ => ("", "", "", false)
def tyJ9 : Nat → FieldType := fun k => match k with
  | _ => .int
abbrev wsJ90 : List Cond := u_ws RJ9 TJ9 0
theorem nmJ9 : ∀ a, a < 0 → ∀ b, b < 0 → a ≠ b → (TJ9 a).2.1 ≠ (TJ9 b).2.1 := by decide +kernel
theorem tyJ9_ok : ∀ k, k < 0 → parseFieldDescriptor (TJ9 k).2.2.1 = some (tyJ9 k) := by decide +kernel
abbrev cJ9_abs_0f7a4 : ByteArray := prog_14_method_59_code
def yJ9_abs_0f7a4 : MethodName := ⟨RJ9, "abs", "(I)I"⟩
abbrev cJ9_max_7cf53 : ByteArray := prog_14_method_65_code
def yJ9_max_7cf53 : MethodName := ⟨RJ9, "max", "(II)I"⟩
def RL : String := "FlashWheelReaderLaw"
abbrev cL_law : ByteArray := code
def yL_law : MethodName := ⟨RL, "law", "([I)Z"⟩
abbrev vwCl : List vw_C := [(RX0, TX0, 5), (RX1, TX1, 4), (RX2, TX2, 2), (RX3, TX3, 3), (RX4, TX4, 4), (RX5, TX5, 4), (RX6, TX6, 7), (RX7, TX7, 5), (RX8, TX8, 5), (RX9, TX9, 17)]
