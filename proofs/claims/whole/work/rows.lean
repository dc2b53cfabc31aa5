section
-- ===== PART A: goes FIRST, ahead of the names: the tables' words, and 'selects' of the private methods out of them =====
/-- a private method of a class that the tables say can be made, by its rows of tables_1 -/
def lw_okq (q : MethodName × Nat) : Prop := (q.1.cls ≠ "java/lang/invoke/MethodHandle" ∧ q.1.cls ≠ "java/lang/invoke/VarHandle") ∧ Cond.instantiable q.1.cls q.2 ∈ tables_1 ∧ Cond.privateMethod q.1 ∈ tables_1 ∧ Cond.instanceMethod q.1 ∈ tables_1
theorem lw_p0 : lw_okq (⟨"FlashWheelReader$WheelText", "readCells", "(LFlashWheelReader$Wheel;)V"⟩, 5) := ⟨⟨by decide +kernel, by decide +kernel⟩, List.mem_of_getElem? (i := 170) (by decide +kernel), List.mem_of_getElem? (i := 263) (by decide +kernel), List.mem_of_getElem? (i := 264) (by decide +kernel)⟩
theorem lw_p1 : lw_okq (⟨"FlashWheelReader$WheelText", "code", "()I"⟩, 5) := ⟨⟨by decide +kernel, by decide +kernel⟩, List.mem_of_getElem? (i := 170) (by decide +kernel), List.mem_of_getElem? (i := 267) (by decide +kernel), List.mem_of_getElem? (i := 268) (by decide +kernel)⟩
theorem lw_p2 : lw_okq (⟨"FlashWheelReader$WheelText", "tellFault", "(II)V"⟩, 5) := ⟨⟨by decide +kernel, by decide +kernel⟩, List.mem_of_getElem? (i := 170) (by decide +kernel), List.mem_of_getElem? (i := 282) (by decide +kernel), List.mem_of_getElem? (i := 283) (by decide +kernel)⟩
theorem lw_p3 : lw_okq (⟨"FlashWheelReader$WheelText", "takes", "(I)Z"⟩, 5) := ⟨⟨by decide +kernel, by decide +kernel⟩, List.mem_of_getElem? (i := 170) (by decide +kernel), List.mem_of_getElem? (i := 286) (by decide +kernel), List.mem_of_getElem? (i := 287) (by decide +kernel)⟩
theorem lw_p4 : lw_okq (⟨"FlashWheelReader$WheelText", "readNumber", "(II)I"⟩, 5) := ⟨⟨by decide +kernel, by decide +kernel⟩, List.mem_of_getElem? (i := 170) (by decide +kernel), List.mem_of_getElem? (i := 290) (by decide +kernel), List.mem_of_getElem? (i := 291) (by decide +kernel)⟩
theorem lw_p5 : lw_okq (⟨"FlashWheelReader$WheelText", "readSpeed", "()I"⟩, 5) := ⟨⟨by decide +kernel, by decide +kernel⟩, List.mem_of_getElem? (i := 170) (by decide +kernel), List.mem_of_getElem? (i := 297) (by decide +kernel), List.mem_of_getElem? (i := 298) (by decide +kernel)⟩
theorem lw_p6 : lw_okq (⟨"FlashWheelReader$History", "slotAt", "(I)LFlashWheelReader$State;"⟩, 3) := ⟨⟨by decide +kernel, by decide +kernel⟩, List.mem_of_getElem? (i := 150) (by decide +kernel), List.mem_of_getElem? (i := 305) (by decide +kernel), List.mem_of_getElem? (i := 306) (by decide +kernel)⟩
theorem lw_p7 : lw_okq (⟨"FlashWheelReader", "isPlace", "(I)Z"⟩, 5) := ⟨⟨by decide +kernel, by decide +kernel⟩, List.mem_of_getElem? (i := 15) (by decide +kernel), List.mem_of_getElem? (i := 345) (by decide +kernel), List.mem_of_getElem? (i := 346) (by decide +kernel)⟩
theorem lw_p8 : lw_okq (⟨"FlashWheelReader", "isFlash", "(I)Z"⟩, 5) := ⟨⟨by decide +kernel, by decide +kernel⟩, List.mem_of_getElem? (i := 15) (by decide +kernel), List.mem_of_getElem? (i := 420) (by decide +kernel), List.mem_of_getElem? (i := 421) (by decide +kernel)⟩
theorem lw_p9 : lw_okq (⟨"FlashWheelReader", "addReading", "(II)I"⟩, 5) := ⟨⟨by decide +kernel, by decide +kernel⟩, List.mem_of_getElem? (i := 15) (by decide +kernel), List.mem_of_getElem? (i := 488) (by decide +kernel), List.mem_of_getElem? (i := 489) (by decide +kernel)⟩
theorem lw_p10 : lw_okq (⟨"FlashWheelReader", "isReading", "(I)Z"⟩, 5) := ⟨⟨by decide +kernel, by decide +kernel⟩, List.mem_of_getElem? (i := 15) (by decide +kernel), List.mem_of_getElem? (i := 506) (by decide +kernel), List.mem_of_getElem? (i := 507) (by decide +kernel)⟩
theorem lw_p11 : lw_okq (⟨"FlashWheelReader", "findWithout", "(I)LFlashWheelReader$Candidates;"⟩, 5) := ⟨⟨by decide +kernel, by decide +kernel⟩, List.mem_of_getElem? (i := 15) (by decide +kernel), List.mem_of_getElem? (i := 520) (by decide +kernel), List.mem_of_getElem? (i := 521) (by decide +kernel)⟩
theorem lw_p12 : lw_okq (⟨"FlashWheelReader", "digestOfPictures", "(J)J"⟩, 5) := ⟨⟨by decide +kernel, by decide +kernel⟩, List.mem_of_getElem? (i := 15) (by decide +kernel), List.mem_of_getElem? (i := 687) (by decide +kernel), List.mem_of_getElem? (i := 688) (by decide +kernel)⟩
theorem lw_p13 : lw_okq (⟨"FlashWheelReader", "digestOfReadings", "(J)J"⟩, 5) := ⟨⟨by decide +kernel, by decide +kernel⟩, List.mem_of_getElem? (i := 15) (by decide +kernel), List.mem_of_getElem? (i := 693) (by decide +kernel), List.mem_of_getElem? (i := 694) (by decide +kernel)⟩
theorem lw_p14 : lw_okq (⟨"FlashWheelReader", "digestOfOpenings", "(J)J"⟩, 5) := ⟨⟨by decide +kernel, by decide +kernel⟩, List.mem_of_getElem? (i := 15) (by decide +kernel), List.mem_of_getElem? (i := 701) (by decide +kernel), List.mem_of_getElem? (i := 702) (by decide +kernel)⟩
theorem lw_p15 : lw_okq (⟨"FlashWheelReaderModel", "copies", "(II)V"⟩, 17) := ⟨⟨by decide +kernel, by decide +kernel⟩, List.mem_of_getElem? (i := 707) (by decide +kernel), List.mem_of_getElem? (i := 770) (by decide +kernel), List.mem_of_getElem? (i := 771) (by decide +kernel)⟩
def lw_privs_1 : List (MethodName × Nat) := [(⟨"FlashWheelReader$WheelText", "readCells", "(LFlashWheelReader$Wheel;)V"⟩, 5), (⟨"FlashWheelReader$WheelText", "code", "()I"⟩, 5), (⟨"FlashWheelReader$WheelText", "tellFault", "(II)V"⟩, 5), (⟨"FlashWheelReader$WheelText", "takes", "(I)Z"⟩, 5), (⟨"FlashWheelReader$WheelText", "readNumber", "(II)I"⟩, 5), (⟨"FlashWheelReader$WheelText", "readSpeed", "()I"⟩, 5), (⟨"FlashWheelReader$History", "slotAt", "(I)LFlashWheelReader$State;"⟩, 3), (⟨"FlashWheelReader", "isPlace", "(I)Z"⟩, 5), (⟨"FlashWheelReader", "isFlash", "(I)Z"⟩, 5), (⟨"FlashWheelReader", "addReading", "(II)I"⟩, 5), (⟨"FlashWheelReader", "isReading", "(I)Z"⟩, 5), (⟨"FlashWheelReader", "findWithout", "(I)LFlashWheelReader$Candidates;"⟩, 5), (⟨"FlashWheelReader", "digestOfPictures", "(J)J"⟩, 5), (⟨"FlashWheelReader", "digestOfReadings", "(J)J"⟩, 5), (⟨"FlashWheelReader", "digestOfOpenings", "(J)J"⟩, 5), (⟨"FlashWheelReaderModel", "copies", "(II)V"⟩, 17)]
theorem lw_r1 : ∀ q ∈ lw_privs_1, lw_okq q := List.forall_mem_cons.mpr ⟨lw_p0, List.forall_mem_cons.mpr ⟨lw_p1, List.forall_mem_cons.mpr ⟨lw_p2, List.forall_mem_cons.mpr ⟨lw_p3, List.forall_mem_cons.mpr ⟨lw_p4, List.forall_mem_cons.mpr ⟨lw_p5, List.forall_mem_cons.mpr ⟨lw_p6, List.forall_mem_cons.mpr ⟨lw_p7, List.forall_mem_cons.mpr ⟨lw_p8, List.forall_mem_cons.mpr ⟨lw_p9, List.forall_mem_cons.mpr ⟨lw_p10, List.forall_mem_cons.mpr ⟨lw_p11, List.forall_mem_cons.mpr ⟨lw_p12, List.forall_mem_cons.mpr ⟨lw_p13, List.forall_mem_cons.mpr ⟨lw_p14, List.forall_mem_cons.mpr ⟨lw_p15, fun _ h => absurd h List.not_mem_nil⟩⟩⟩⟩⟩⟩⟩⟩⟩⟩⟩⟩⟩⟩⟩⟩
theorem lw_p16 : lw_okq (⟨"FlashWheelReaderModel", "readsCells", "()Z"⟩, 17) := ⟨⟨by decide +kernel, by decide +kernel⟩, List.mem_of_getElem? (i := 707) (by decide +kernel), List.mem_of_getElem? (i := 789) (by decide +kernel), List.mem_of_getElem? (i := 790) (by decide +kernel)⟩
theorem lw_p17 : lw_okq (⟨"FlashWheelReaderModel", "here", "()I"⟩, 17) := ⟨⟨by decide +kernel, by decide +kernel⟩, List.mem_of_getElem? (i := 707) (by decide +kernel), List.mem_of_getElem? (i := 793) (by decide +kernel), List.mem_of_getElem? (i := 794) (by decide +kernel)⟩
theorem lw_p18 : lw_okq (⟨"FlashWheelReaderModel", "fails", "(II)Z"⟩, 17) := ⟨⟨by decide +kernel, by decide +kernel⟩, List.mem_of_getElem? (i := 707) (by decide +kernel), List.mem_of_getElem? (i := 797) (by decide +kernel), List.mem_of_getElem? (i := 798) (by decide +kernel)⟩
theorem lw_p19 : lw_okq (⟨"FlashWheelReaderModel", "readsStart", "()Z"⟩, 17) := ⟨⟨by decide +kernel, by decide +kernel⟩, List.mem_of_getElem? (i := 707) (by decide +kernel), List.mem_of_getElem? (i := 801) (by decide +kernel), List.mem_of_getElem? (i := 802) (by decide +kernel)⟩
theorem lw_p20 : lw_okq (⟨"FlashWheelReaderModel", "readsNumber", "(IIII)Z"⟩, 17) := ⟨⟨by decide +kernel, by decide +kernel⟩, List.mem_of_getElem? (i := 707) (by decide +kernel), List.mem_of_getElem? (i := 805) (by decide +kernel), List.mem_of_getElem? (i := 806) (by decide +kernel)⟩
theorem lw_p21 : lw_okq (⟨"FlashWheelReaderModel", "isDigit", "()Z"⟩, 17) := ⟨⟨by decide +kernel, by decide +kernel⟩, List.mem_of_getElem? (i := 707) (by decide +kernel), List.mem_of_getElem? (i := 809) (by decide +kernel), List.mem_of_getElem? (i := 810) (by decide +kernel)⟩
theorem lw_p22 : lw_okq (⟨"FlashWheelReaderModel", "readsSpeed", "()Z"⟩, 17) := ⟨⟨by decide +kernel, by decide +kernel⟩, List.mem_of_getElem? (i := 707) (by decide +kernel), List.mem_of_getElem? (i := 813) (by decide +kernel), List.mem_of_getElem? (i := 814) (by decide +kernel)⟩
theorem lw_p23 : lw_okq (⟨"FlashWheelReaderModel", "records", "()V"⟩, 17) := ⟨⟨by decide +kernel, by decide +kernel⟩, List.mem_of_getElem? (i := 707) (by decide +kernel), List.mem_of_getElem? (i := 817) (by decide +kernel), List.mem_of_getElem? (i := 818) (by decide +kernel)⟩
theorem lw_p24 : lw_okq (⟨"FlashWheelReaderModel", "cells", "()I"⟩, 17) := ⟨⟨by decide +kernel, by decide +kernel⟩, List.mem_of_getElem? (i := 707) (by decide +kernel), List.mem_of_getElem? (i := 821) (by decide +kernel), List.mem_of_getElem? (i := 822) (by decide +kernel)⟩
theorem lw_p25 : lw_okq (⟨"FlashWheelReaderModel", "isCell", "(I)Z"⟩, 17) := ⟨⟨by decide +kernel, by decide +kernel⟩, List.mem_of_getElem? (i := 707) (by decide +kernel), List.mem_of_getElem? (i := 833) (by decide +kernel), List.mem_of_getElem? (i := 834) (by decide +kernel)⟩
theorem lw_p26 : lw_okq (⟨"FlashWheelReaderModel", "becomes", "(II)I"⟩, 17) := ⟨⟨by decide +kernel, by decide +kernel⟩, List.mem_of_getElem? (i := 707) (by decide +kernel), List.mem_of_getElem? (i := 837) (by decide +kernel), List.mem_of_getElem? (i := 838) (by decide +kernel)⟩
theorem lw_p27 : lw_okq (⟨"FlashWheelReaderModel", "isChange", "(I)Z"⟩, 17) := ⟨⟨by decide +kernel, by decide +kernel⟩, List.mem_of_getElem? (i := 707) (by decide +kernel), List.mem_of_getElem? (i := 852) (by decide +kernel), List.mem_of_getElem? (i := 853) (by decide +kernel)⟩
theorem lw_p28 : lw_okq (⟨"FlashWheelReaderModel", "changeFrom", "(I)I"⟩, 17) := ⟨⟨by decide +kernel, by decide +kernel⟩, List.mem_of_getElem? (i := 707) (by decide +kernel), List.mem_of_getElem? (i := 856) (by decide +kernel), List.mem_of_getElem? (i := 857) (by decide +kernel)⟩
theorem lw_p29 : lw_okq (⟨"FlashWheelReaderModel", "tickOf", "(I)I"⟩, 17) := ⟨⟨by decide +kernel, by decide +kernel⟩, List.mem_of_getElem? (i := 707) (by decide +kernel), List.mem_of_getElem? (i := 860) (by decide +kernel), List.mem_of_getElem? (i := 861) (by decide +kernel)⟩
theorem lw_p30 : lw_okq (⟨"FlashWheelReaderModel", "laysTurns", "()V"⟩, 17) := ⟨⟨by decide +kernel, by decide +kernel⟩, List.mem_of_getElem? (i := 707) (by decide +kernel), List.mem_of_getElem? (i := 872) (by decide +kernel), List.mem_of_getElem? (i := 873) (by decide +kernel)⟩
theorem lw_p31 : lw_okq (⟨"FlashWheelReaderModel", "measure", "()I"⟩, 17) := ⟨⟨by decide +kernel, by decide +kernel⟩, List.mem_of_getElem? (i := 707) (by decide +kernel), List.mem_of_getElem? (i := 876) (by decide +kernel), List.mem_of_getElem? (i := 877) (by decide +kernel)⟩
def lw_privs_2 : List (MethodName × Nat) := [(⟨"FlashWheelReaderModel", "readsCells", "()Z"⟩, 17), (⟨"FlashWheelReaderModel", "here", "()I"⟩, 17), (⟨"FlashWheelReaderModel", "fails", "(II)Z"⟩, 17), (⟨"FlashWheelReaderModel", "readsStart", "()Z"⟩, 17), (⟨"FlashWheelReaderModel", "readsNumber", "(IIII)Z"⟩, 17), (⟨"FlashWheelReaderModel", "isDigit", "()Z"⟩, 17), (⟨"FlashWheelReaderModel", "readsSpeed", "()Z"⟩, 17), (⟨"FlashWheelReaderModel", "records", "()V"⟩, 17), (⟨"FlashWheelReaderModel", "cells", "()I"⟩, 17), (⟨"FlashWheelReaderModel", "isCell", "(I)Z"⟩, 17), (⟨"FlashWheelReaderModel", "becomes", "(II)I"⟩, 17), (⟨"FlashWheelReaderModel", "isChange", "(I)Z"⟩, 17), (⟨"FlashWheelReaderModel", "changeFrom", "(I)I"⟩, 17), (⟨"FlashWheelReaderModel", "tickOf", "(I)I"⟩, 17), (⟨"FlashWheelReaderModel", "laysTurns", "()V"⟩, 17), (⟨"FlashWheelReaderModel", "measure", "()I"⟩, 17)]
theorem lw_r2 : ∀ q ∈ lw_privs_2, lw_okq q := List.forall_mem_cons.mpr ⟨lw_p16, List.forall_mem_cons.mpr ⟨lw_p17, List.forall_mem_cons.mpr ⟨lw_p18, List.forall_mem_cons.mpr ⟨lw_p19, List.forall_mem_cons.mpr ⟨lw_p20, List.forall_mem_cons.mpr ⟨lw_p21, List.forall_mem_cons.mpr ⟨lw_p22, List.forall_mem_cons.mpr ⟨lw_p23, List.forall_mem_cons.mpr ⟨lw_p24, List.forall_mem_cons.mpr ⟨lw_p25, List.forall_mem_cons.mpr ⟨lw_p26, List.forall_mem_cons.mpr ⟨lw_p27, List.forall_mem_cons.mpr ⟨lw_p28, List.forall_mem_cons.mpr ⟨lw_p29, List.forall_mem_cons.mpr ⟨lw_p30, List.forall_mem_cons.mpr ⟨lw_p31, fun _ h => absurd h List.not_mem_nil⟩⟩⟩⟩⟩⟩⟩⟩⟩⟩⟩⟩⟩⟩⟩⟩
theorem lw_p32 : lw_okq (⟨"FlashWheelReaderModel", "seenAt", "(II)I"⟩, 17) := ⟨⟨by decide +kernel, by decide +kernel⟩, List.mem_of_getElem? (i := 707) (by decide +kernel), List.mem_of_getElem? (i := 883) (by decide +kernel), List.mem_of_getElem? (i := 884) (by decide +kernel)⟩
theorem lw_p33 : lw_okq (⟨"FlashWheelReaderModel", "flashes", "()I"⟩, 17) := ⟨⟨by decide +kernel, by decide +kernel⟩, List.mem_of_getElem? (i := 707) (by decide +kernel), List.mem_of_getElem? (i := 895) (by decide +kernel), List.mem_of_getElem? (i := 896) (by decide +kernel)⟩
theorem lw_p34 : lw_okq (⟨"FlashWheelReaderModel", "isFlash", "(I)Z"⟩, 17) := ⟨⟨by decide +kernel, by decide +kernel⟩, List.mem_of_getElem? (i := 707) (by decide +kernel), List.mem_of_getElem? (i := 903) (by decide +kernel), List.mem_of_getElem? (i := 904) (by decide +kernel)⟩
theorem lw_p35 : lw_okq (⟨"FlashWheelReaderModel", "tickOfFlash", "(I)I"⟩, 17) := ⟨⟨by decide +kernel, by decide +kernel⟩, List.mem_of_getElem? (i := 707) (by decide +kernel), List.mem_of_getElem? (i := 907) (by decide +kernel), List.mem_of_getElem? (i := 908) (by decide +kernel)⟩
theorem lw_p36 : lw_okq (⟨"FlashWheelReaderModel", "stepBehind", "(I)I"⟩, 17) := ⟨⟨by decide +kernel, by decide +kernel⟩, List.mem_of_getElem? (i := 707) (by decide +kernel), List.mem_of_getElem? (i := 911) (by decide +kernel), List.mem_of_getElem? (i := 912) (by decide +kernel)⟩
theorem lw_p37 : lw_okq (⟨"FlashWheelReaderModel", "stepOf", "(II)I"⟩, 17) := ⟨⟨by decide +kernel, by decide +kernel⟩, List.mem_of_getElem? (i := 707) (by decide +kernel), List.mem_of_getElem? (i := 915) (by decide +kernel), List.mem_of_getElem? (i := 916) (by decide +kernel)⟩
theorem lw_p38 : lw_okq (⟨"FlashWheelReaderModel", "earliest", "(I)I"⟩, 17) := ⟨⟨by decide +kernel, by decide +kernel⟩, List.mem_of_getElem? (i := 707) (by decide +kernel), List.mem_of_getElem? (i := 919) (by decide +kernel), List.mem_of_getElem? (i := 920) (by decide +kernel)⟩
theorem lw_p39 : lw_okq (⟨"FlashWheelReaderModel", "isSamePicture", "(II)Z"⟩, 17) := ⟨⟨by decide +kernel, by decide +kernel⟩, List.mem_of_getElem? (i := 707) (by decide +kernel), List.mem_of_getElem? (i := 923) (by decide +kernel), List.mem_of_getElem? (i := 924) (by decide +kernel)⟩
theorem lw_p40 : lw_okq (⟨"FlashWheelReaderModel", "pictures", "()I"⟩, 17) := ⟨⟨by decide +kernel, by decide +kernel⟩, List.mem_of_getElem? (i := 707) (by decide +kernel), List.mem_of_getElem? (i := 935) (by decide +kernel), List.mem_of_getElem? (i := 936) (by decide +kernel)⟩
theorem lw_p41 : lw_okq (⟨"FlashWheelReaderModel", "adds", "(II)I"⟩, 17) := ⟨⟨by decide +kernel, by decide +kernel⟩, List.mem_of_getElem? (i := 707) (by decide +kernel), List.mem_of_getElem? (i := 947) (by decide +kernel), List.mem_of_getElem? (i := 948) (by decide +kernel)⟩
theorem lw_p42 : lw_okq (⟨"FlashWheelReaderModel", "isReading", "(I)Z"⟩, 17) := ⟨⟨by decide +kernel, by decide +kernel⟩, List.mem_of_getElem? (i := 707) (by decide +kernel), List.mem_of_getElem? (i := 959) (by decide +kernel), List.mem_of_getElem? (i := 960) (by decide +kernel)⟩
theorem lw_p43 : lw_okq (⟨"FlashWheelReaderModel", "finds", "(I)V"⟩, 17) := ⟨⟨by decide +kernel, by decide +kernel⟩, List.mem_of_getElem? (i := 707) (by decide +kernel), List.mem_of_getElem? (i := 967) (by decide +kernel), List.mem_of_getElem? (i := 968) (by decide +kernel)⟩
theorem lw_p44 : lw_okq (⟨"FlashWheelReaderModel", "restOf", "(II)I"⟩, 17) := ⟨⟨by decide +kernel, by decide +kernel⟩, List.mem_of_getElem? (i := 707) (by decide +kernel), List.mem_of_getElem? (i := 998) (by decide +kernel), List.mem_of_getElem? (i := 999) (by decide +kernel)⟩
theorem lw_p45 : lw_okq (⟨"FlashWheelReaderModel", "isOpen", "(I)Z"⟩, 17) := ⟨⟨by decide +kernel, by decide +kernel⟩, List.mem_of_getElem? (i := 707) (by decide +kernel), List.mem_of_getElem? (i := 1014) (by decide +kernel), List.mem_of_getElem? (i := 1015) (by decide +kernel)⟩
theorem lw_p46 : lw_okq (⟨"FlashWheelReaderModel", "goesTo", "(I)I"⟩, 17) := ⟨⟨by decide +kernel, by decide +kernel⟩, List.mem_of_getElem? (i := 707) (by decide +kernel), List.mem_of_getElem? (i := 1022) (by decide +kernel), List.mem_of_getElem? (i := 1023) (by decide +kernel)⟩
theorem lw_p47 : lw_okq (⟨"FlashWheelReaderModel", "smeared", "()I"⟩, 17) := ⟨⟨by decide +kernel, by decide +kernel⟩, List.mem_of_getElem? (i := 707) (by decide +kernel), List.mem_of_getElem? (i := 1026) (by decide +kernel), List.mem_of_getElem? (i := 1027) (by decide +kernel)⟩
def lw_privs_3 : List (MethodName × Nat) := [(⟨"FlashWheelReaderModel", "seenAt", "(II)I"⟩, 17), (⟨"FlashWheelReaderModel", "flashes", "()I"⟩, 17), (⟨"FlashWheelReaderModel", "isFlash", "(I)Z"⟩, 17), (⟨"FlashWheelReaderModel", "tickOfFlash", "(I)I"⟩, 17), (⟨"FlashWheelReaderModel", "stepBehind", "(I)I"⟩, 17), (⟨"FlashWheelReaderModel", "stepOf", "(II)I"⟩, 17), (⟨"FlashWheelReaderModel", "earliest", "(I)I"⟩, 17), (⟨"FlashWheelReaderModel", "isSamePicture", "(II)Z"⟩, 17), (⟨"FlashWheelReaderModel", "pictures", "()I"⟩, 17), (⟨"FlashWheelReaderModel", "adds", "(II)I"⟩, 17), (⟨"FlashWheelReaderModel", "isReading", "(I)Z"⟩, 17), (⟨"FlashWheelReaderModel", "finds", "(I)V"⟩, 17), (⟨"FlashWheelReaderModel", "restOf", "(II)I"⟩, 17), (⟨"FlashWheelReaderModel", "isOpen", "(I)Z"⟩, 17), (⟨"FlashWheelReaderModel", "goesTo", "(I)I"⟩, 17), (⟨"FlashWheelReaderModel", "smeared", "()I"⟩, 17)]
theorem lw_r3 : ∀ q ∈ lw_privs_3, lw_okq q := List.forall_mem_cons.mpr ⟨lw_p32, List.forall_mem_cons.mpr ⟨lw_p33, List.forall_mem_cons.mpr ⟨lw_p34, List.forall_mem_cons.mpr ⟨lw_p35, List.forall_mem_cons.mpr ⟨lw_p36, List.forall_mem_cons.mpr ⟨lw_p37, List.forall_mem_cons.mpr ⟨lw_p38, List.forall_mem_cons.mpr ⟨lw_p39, List.forall_mem_cons.mpr ⟨lw_p40, List.forall_mem_cons.mpr ⟨lw_p41, List.forall_mem_cons.mpr ⟨lw_p42, List.forall_mem_cons.mpr ⟨lw_p43, List.forall_mem_cons.mpr ⟨lw_p44, List.forall_mem_cons.mpr ⟨lw_p45, List.forall_mem_cons.mpr ⟨lw_p46, List.forall_mem_cons.mpr ⟨lw_p47, fun _ h => absurd h List.not_mem_nil⟩⟩⟩⟩⟩⟩⟩⟩⟩⟩⟩⟩⟩⟩⟩⟩
theorem lw_p48 : lw_okq (⟨"FlashWheelReaderModel", "smearAt", "(I)I"⟩, 17) := ⟨⟨by decide +kernel, by decide +kernel⟩, List.mem_of_getElem? (i := 707) (by decide +kernel), List.mem_of_getElem? (i := 1030) (by decide +kernel), List.mem_of_getElem? (i := 1031) (by decide +kernel)⟩
theorem lw_p49 : lw_okq (⟨"FlashWheelReaderModel", "isStill", "()Z"⟩, 17) := ⟨⟨by decide +kernel, by decide +kernel⟩, List.mem_of_getElem? (i := 707) (by decide +kernel), List.mem_of_getElem? (i := 1034) (by decide +kernel), List.mem_of_getElem? (i := 1035) (by decide +kernel)⟩
theorem lw_p50 : lw_okq (⟨"FlashWheelReaderModel", "marks", "()I"⟩, 17) := ⟨⟨by decide +kernel, by decide +kernel⟩, List.mem_of_getElem? (i := 707) (by decide +kernel), List.mem_of_getElem? (i := 1046) (by decide +kernel), List.mem_of_getElem? (i := 1047) (by decide +kernel)⟩
theorem lw_p51 : lw_okq (⟨"FlashWheelReaderModel", "mixes", "(I)V"⟩, 17) := ⟨⟨by decide +kernel, by decide +kernel⟩, List.mem_of_getElem? (i := 707) (by decide +kernel), List.mem_of_getElem? (i := 1056) (by decide +kernel), List.mem_of_getElem? (i := 1057) (by decide +kernel)⟩
theorem lw_p52 : lw_okq (⟨"FlashWheelReaderModel", "mixesReadings", "()V"⟩, 17) := ⟨⟨by decide +kernel, by decide +kernel⟩, List.mem_of_getElem? (i := 707) (by decide +kernel), List.mem_of_getElem? (i := 1064) (by decide +kernel), List.mem_of_getElem? (i := 1065) (by decide +kernel)⟩
def lw_privs_4 : List (MethodName × Nat) := [(⟨"FlashWheelReaderModel", "smearAt", "(I)I"⟩, 17), (⟨"FlashWheelReaderModel", "isStill", "()Z"⟩, 17), (⟨"FlashWheelReaderModel", "marks", "()I"⟩, 17), (⟨"FlashWheelReaderModel", "mixes", "(I)V"⟩, 17), (⟨"FlashWheelReaderModel", "mixesReadings", "()V"⟩, 17)]
theorem lw_r4 : ∀ q ∈ lw_privs_4, lw_okq q := List.forall_mem_cons.mpr ⟨lw_p48, List.forall_mem_cons.mpr ⟨lw_p49, List.forall_mem_cons.mpr ⟨lw_p50, List.forall_mem_cons.mpr ⟨lw_p51, List.forall_mem_cons.mpr ⟨lw_p52, fun _ h => absurd h List.not_mem_nil⟩⟩⟩⟩⟩
def lw_privs : List (MethodName × Nat) := lw_privs_1 ++ (lw_privs_2 ++ (lw_privs_3 ++ (lw_privs_4)))
def lw_tbl : List Cond := k2_sels lw_privs ++ tables_1
theorem lw_privs_ok : ∀ q ∈ lw_privs, lw_okq q := by
  show ∀ q ∈ lw_privs_1 ++ (lw_privs_2 ++ (lw_privs_3 ++ (lw_privs_4))), lw_okq q
  exact List.forall_mem_append.mpr ⟨lw_r1, List.forall_mem_append.mpr ⟨lw_r2, List.forall_mem_append.mpr ⟨lw_r3, lw_r4⟩⟩⟩
def RX0 : String := "FlashWheelReader$Candidates"
def TX0 : u_T := fun k => match k with
  | 0 => ("FlashWheelReader$Candidates", "byRemainder", "[I", true)
  | 1 => ("FlashWheelReader$Candidates", "classes", "[I", true)
  | 2 => ("FlashWheelReader$Candidates", "measure", "I", false)
  | 3 => ("FlashWheelReader$Candidates", "limit", "I", false)
  | _ => ("FlashWheelReader$Candidates", "fitting", "J", false)
def tyX0 : Nat → FieldType := fun k => match k with
  | 0 => .array .int
  | 1 => .array .int
  | 2 => .int
  | 3 => .int
  | _ => .long
abbrev wsX00 : List Cond := u_ws RX0 TX0 5
theorem nmX0 : ∀ a, a < 5 → ∀ b, b < 5 → a ≠ b → (TX0 a).2.1 ≠ (TX0 b).2.1 := by decide +kernel
theorem tyX0_ok : ∀ k, k < 5 → parseFieldDescriptor (TX0 k).2.2.1 = some (tyX0 k) := by decide +kernel
abbrev cX0_init : ByteArray := prog_2_method_1_code
def yX0_init : MethodName := ⟨RX0, "<init>", "()V"⟩
abbrev cX0_find : ByteArray := prog_2_method_2_code
def yX0_find : MethodName := ⟨RX0, "find", "(ILFlashWheelReader$Readings;I)V"⟩
abbrev cX0_has : ByteArray := prog_2_method_3_code
def yX0_has : MethodName := ⟨RX0, "has", "(I)Z"⟩
abbrev cX0_number : ByteArray := prog_2_method_4_code
def yX0_number : MethodName := ⟨RX0, "number", "()I"⟩
abbrev cX0_inOrder : ByteArray := prog_2_method_5_code
def yX0_inOrder : MethodName := ⟨RX0, "inOrder", "(I)I"⟩
abbrev cX0_nearestTo : ByteArray := prog_2_method_6_code
def yX0_nearestTo : MethodName := ⟨RX0, "nearestTo", "(I)I"⟩
abbrev cX0_countByRemainder : ByteArray := prog_2_method_7_code
def yX0_countByRemainder : MethodName := ⟨RX0, "countByRemainder", "()V"⟩
abbrev cX0_restOf : ByteArray := prog_2_method_8_code
def yX0_restOf : MethodName := ⟨RX0, "restOf", "(I)I"⟩
def RX1 : String := "FlashWheelReader$Disc"
def TX1 : u_T := fun k => match k with
  | 0 => ("FlashWheelReader$Disc", "cells", "I", false)
  | 1 => ("FlashWheelReader$Disc", "open", "I", false)
  | 2 => ("FlashWheelReader$Disc", "start", "I", false)
  | _ => ("FlashWheelReader$Disc", "speed", "I", false)
def tyX1 : Nat → FieldType := fun k => match k with
  | 0 => .int
  | 1 => .int
  | 2 => .int
  | _ => .int
abbrev wsX10 : List Cond := u_ws RX1 TX1 4
theorem nmX1 : ∀ a, a < 4 → ∀ b, b < 4 → a ≠ b → (TX1 a).2.1 ≠ (TX1 b).2.1 := by decide +kernel
theorem tyX1_ok : ∀ k, k < 4 → parseFieldDescriptor (TX1 k).2.2.1 = some (tyX1 k) := by decide +kernel
abbrev cX1_init : ByteArray := prog_3_method_1_code
def yX1_init : MethodName := ⟨RX1, "<init>", "()V"⟩
abbrev cX1_copyFrom : ByteArray := prog_3_method_2_code
def yX1_copyFrom : MethodName := ⟨RX1, "copyFrom", "(LFlashWheelReader$Disc;)V"⟩
abbrev cX1_isOpenAt : ByteArray := prog_3_method_3_code
def yX1_isOpenAt : MethodName := ⟨RX1, "isOpenAt", "(I)Z"⟩
abbrev cX1_opensAt : ByteArray := prog_3_method_4_code
def yX1_opensAt : MethodName := ⟨RX1, "opensAt", "(I)Z"⟩
abbrev cX1_openings : ByteArray := prog_3_method_5_code
def yX1_openings : MethodName := ⟨RX1, "openings", "()I"⟩
abbrev cX1_firstTickOf : ByteArray := prog_3_method_6_code
def yX1_firstTickOf : MethodName := ⟨RX1, "firstTickOf", "(I)I"⟩
abbrev cX1_ticksFrom : ByteArray := prog_3_method_7_code
def yX1_ticksFrom : MethodName := ⟨RX1, "ticksFrom", "(I)I"⟩
def RX2 : String := "FlashWheelReader$Flashes"
def TX2 : u_T := fun k => match k with
  | 0 => ("FlashWheelReader$Flashes", "first", "I", false)
  | _ => ("FlashWheelReader$Flashes", "period", "I", false)
def tyX2 : Nat → FieldType := fun k => match k with
  | 0 => .int
  | _ => .int
abbrev wsX20 : List Cond := u_ws RX2 TX2 2
theorem nmX2 : ∀ a, a < 2 → ∀ b, b < 2 → a ≠ b → (TX2 a).2.1 ≠ (TX2 b).2.1 := by decide +kernel
theorem tyX2_ok : ∀ k, k < 2 → parseFieldDescriptor (TX2 k).2.2.1 = some (tyX2 k) := by decide +kernel
abbrev cX2_init : ByteArray := prog_4_method_1_code
def yX2_init : MethodName := ⟨RX2, "<init>", "()V"⟩
abbrev cX2_copyFrom : ByteArray := prog_4_method_2_code
def yX2_copyFrom : MethodName := ⟨RX2, "copyFrom", "(LFlashWheelReader$Flashes;)V"⟩
abbrev cX2_number : ByteArray := prog_4_method_3_code
def yX2_number : MethodName := ⟨RX2, "number", "()I"⟩
abbrev cX2_tickOf : ByteArray := prog_4_method_4_code
def yX2_tickOf : MethodName := ⟨RX2, "tickOf", "(I)I"⟩
def RX3 : String := "FlashWheelReader$History"
def TX3 : u_T := fun k => match k with
  | 0 => ("FlashWheelReader$History", "ring", "[LFlashWheelReader$State;", true)
  | 1 => ("FlashWheelReader$History", "next", "I", false)
  | _ => ("FlashWheelReader$History", "size", "I", false)
def tyX3 : Nat → FieldType := fun k => match k with
  | 0 => .array (.object "FlashWheelReader$State")
  | 1 => .int
  | _ => .int
abbrev wsX30 : List Cond := u_ws RX3 TX3 3
theorem nmX3 : ∀ a, a < 3 → ∀ b, b < 3 → a ≠ b → (TX3 a).2.1 ≠ (TX3 b).2.1 := by decide +kernel
theorem tyX3_ok : ∀ k, k < 3 → parseFieldDescriptor (TX3 k).2.2.1 = some (tyX3 k) := by decide +kernel
abbrev cX3_init : ByteArray := prog_5_method_1_code
def yX3_init : MethodName := ⟨RX3, "<init>", "()V"⟩
abbrev cX3_remember : ByteArray := prog_5_method_2_code
def yX3_remember : MethodName := ⟨RX3, "remember", "(LFlashWheelReader$State;)V"⟩
abbrev cX3_restore : ByteArray := prog_5_method_3_code
def yX3_restore : MethodName := ⟨RX3, "restore", "(LFlashWheelReader$State;)V"⟩
abbrev cX3_slotAt : ByteArray := prog_5_method_4_code
def yX3_slotAt : MethodName := ⟨RX3, "slotAt", "(I)LFlashWheelReader$State;"⟩
def RX4 : String := "FlashWheelReader$Readings"
def TX4 : u_T := fun k => match k with
  | 0 => ("FlashWheelReader$Readings", "ticks", "[I", true)
  | 1 => ("FlashWheelReader$Readings", "steps", "[I", true)
  | 2 => ("FlashWheelReader$Readings", "size", "I", false)
  | _ => ("FlashWheelReader$Readings", "limit", "I", false)
def tyX4 : Nat → FieldType := fun k => match k with
  | 0 => .array .int
  | 1 => .array .int
  | 2 => .int
  | _ => .int
abbrev wsX40 : List Cond := u_ws RX4 TX4 4
theorem nmX4 : ∀ a, a < 4 → ∀ b, b < 4 → a ≠ b → (TX4 a).2.1 ≠ (TX4 b).2.1 := by decide +kernel
theorem tyX4_ok : ∀ k, k < 4 → parseFieldDescriptor (TX4 k).2.2.1 = some (tyX4 k) := by decide +kernel
abbrev cX4_init : ByteArray := prog_6_method_1_code
def yX4_init : MethodName := ⟨RX4, "<init>", "()V"⟩
abbrev cX4_copyFrom : ByteArray := prog_6_method_2_code
def yX4_copyFrom : MethodName := ⟨RX4, "copyFrom", "(LFlashWheelReader$Readings;)V"⟩
abbrev cX4_add : ByteArray := prog_6_method_3_code
def yX4_add : MethodName := ⟨RX4, "add", "(II)V"⟩
abbrev cX4_remove : ByteArray := prog_6_method_4_code
def yX4_remove : MethodName := ⟨RX4, "remove", "(I)V"⟩
abbrev cX4_allFit : ByteArray := prog_6_method_5_code
def yX4_allFit : MethodName := ⟨RX4, "allFit", "(III)Z"⟩
def RX5 : String := "FlashWheelReader$State"
def TX5 : u_T := fun k => match k with
  | 0 => ("FlashWheelReader$State", "wheel", "LFlashWheelReader$Wheel;", true)
  | 1 => ("FlashWheelReader$State", "flashes", "LFlashWheelReader$Flashes;", true)
  | 2 => ("FlashWheelReader$State", "readings", "LFlashWheelReader$Readings;", true)
  | _ => ("FlashWheelReader$State", "disc", "LFlashWheelReader$Disc;", true)
def tyX5 : Nat → FieldType := fun k => match k with
  | 0 => .object "FlashWheelReader$Wheel"
  | 1 => .object "FlashWheelReader$Flashes"
  | 2 => .object "FlashWheelReader$Readings"
  | _ => .object "FlashWheelReader$Disc"
abbrev wsX50 : List Cond := u_ws RX5 TX5 4
theorem nmX5 : ∀ a, a < 4 → ∀ b, b < 4 → a ≠ b → (TX5 a).2.1 ≠ (TX5 b).2.1 := by decide +kernel
theorem tyX5_ok : ∀ k, k < 4 → parseFieldDescriptor (TX5 k).2.2.1 = some (tyX5 k) := by decide +kernel
abbrev cX5_init : ByteArray := prog_7_method_1_code
def yX5_init : MethodName := ⟨RX5, "<init>", "()V"⟩
abbrev cX5_copyFrom : ByteArray := prog_7_method_2_code
def yX5_copyFrom : MethodName := ⟨RX5, "copyFrom", "(LFlashWheelReader$State;)V"⟩
abbrev cX5_earliestAlike : ByteArray := prog_7_method_3_code
def yX5_earliestAlike : MethodName := ⟨RX5, "earliestAlike", "(I)I"⟩
abbrev cX5_countSeeming : ByteArray := prog_7_method_4_code
def yX5_countSeeming : MethodName := ⟨RX5, "countSeeming", "(I)I"⟩
abbrev cX5_differentPictures : ByteArray := prog_7_method_5_code
def yX5_differentPictures : MethodName := ⟨RX5, "differentPictures", "()I"⟩
def RX6 : String := "FlashWheelReader$Wheel"
def TX6 : u_T := fun k => match k with
  | 0 => ("FlashWheelReader$Wheel", "marks", "[I", true)
  | 1 => ("FlashWheelReader$Wheel", "changeTicks", "[I", true)
  | 2 => ("FlashWheelReader$Wheel", "changeSpeeds", "[I", true)
  | 3 => ("FlashWheelReader$Wheel", "cells", "I", false)
  | 4 => ("FlashWheelReader$Wheel", "start", "I", false)
  | 5 => ("FlashWheelReader$Wheel", "speed", "I", false)
  | _ => ("FlashWheelReader$Wheel", "changes", "I", false)
def tyX6 : Nat → FieldType := fun k => match k with
  | 0 => .array .int
  | 1 => .array .int
  | 2 => .array .int
  | 3 => .int
  | 4 => .int
  | 5 => .int
  | _ => .int
abbrev wsX60 : List Cond := u_ws RX6 TX6 7
theorem nmX6 : ∀ a, a < 7 → ∀ b, b < 7 → a ≠ b → (TX6 a).2.1 ≠ (TX6 b).2.1 := by decide +kernel
theorem tyX6_ok : ∀ k, k < 7 → parseFieldDescriptor (TX6 k).2.2.1 = some (tyX6 k) := by decide +kernel
abbrev cX6_init : ByteArray := prog_8_method_1_code
def yX6_init : MethodName := ⟨RX6, "<init>", "()V"⟩
abbrev cX6_copyFrom : ByteArray := prog_8_method_2_code
def yX6_copyFrom : MethodName := ⟨RX6, "copyFrom", "(LFlashWheelReader$Wheel;)V"⟩
abbrev cX6_empty : ByteArray := prog_8_method_3_code
def yX6_empty : MethodName := ⟨RX6, "empty", "()V"⟩
abbrev cX6_addCell : ByteArray := prog_8_method_4_code
def yX6_addCell : MethodName := ⟨RX6, "addCell", "(I)V"⟩
abbrev cX6_markOf : ByteArray := prog_8_method_5_code
def yX6_markOf : MethodName := ⟨RX6, "markOf", "(I)I"⟩
abbrev cX6_markedCells : ByteArray := prog_8_method_6_code
def yX6_markedCells : MethodName := ⟨RX6, "markedCells", "()I"⟩
abbrev cX6_measure : ByteArray := prog_8_method_7_code
def yX6_measure : MethodName := ⟨RX6, "measure", "()I"⟩
abbrev cX6_isSameTurnedBy : ByteArray := prog_8_method_8_code
def yX6_isSameTurnedBy : MethodName := ⟨RX6, "isSameTurnedBy", "(I)Z"⟩
abbrev cX6_placeOfChange : ByteArray := prog_8_method_9_code
def yX6_placeOfChange : MethodName := ⟨RX6, "placeOfChange", "(I)I"⟩
abbrev cX6_hasChange : ByteArray := prog_8_method_10_code
def yX6_hasChange : MethodName := ⟨RX6, "hasChange", "(I)Z"⟩
abbrev cX6_hasRoomFor : ByteArray := prog_8_method_11_code
def yX6_hasRoomFor : MethodName := ⟨RX6, "hasRoomFor", "(I)Z"⟩
abbrev cX6_putSpeed : ByteArray := prog_8_method_12_code
def yX6_putSpeed : MethodName := ⟨RX6, "putSpeed", "(II)V"⟩
abbrev cX6_insertChange : ByteArray := prog_8_method_13_code
def yX6_insertChange : MethodName := ⟨RX6, "insertChange", "(I)V"⟩
abbrev cX6_removeChange : ByteArray := prog_8_method_14_code
def yX6_removeChange : MethodName := ⟨RX6, "removeChange", "(I)V"⟩
abbrev cX6_turnAt : ByteArray := prog_8_method_15_code
def yX6_turnAt : MethodName := ⟨RX6, "turnAt", "(I)I"⟩
abbrev cX6_stepBetween : ByteArray := prog_8_method_16_code
def yX6_stepBetween : MethodName := ⟨RX6, "stepBetween", "(III)I"⟩
abbrev cX6_turnsModulo : ByteArray := prog_8_method_17_code
def yX6_turnsModulo : MethodName := ⟨RX6, "turnsModulo", "(IIII)J"⟩
abbrev cX6_looksTheSame : ByteArray := prog_8_method_18_code
def yX6_looksTheSame : MethodName := ⟨RX6, "looksTheSame", "(II)Z"⟩
abbrev cX6_smearedPlaces : ByteArray := prog_8_method_19_code
def yX6_smearedPlaces : MethodName := ⟨RX6, "smearedPlaces", "(II)I"⟩
abbrev cX6_marksPassing : ByteArray := prog_8_method_20_code
def yX6_marksPassing : MethodName := ⟨RX6, "marksPassing", "(IJ)I"⟩
def RX7 : String := "FlashWheelReader$WheelText"
def TX7 : u_T := fun k => match k with
  | 0 => ("FlashWheelReader$WheelText", "codes", "[I", true)
  | 1 => ("FlashWheelReader$WheelText", "next", "I", false)
  | 2 => ("FlashWheelReader$WheelText", "length", "I", false)
  | 3 => ("FlashWheelReader$WheelText", "fault", "I", false)
  | _ => ("FlashWheelReader$WheelText", "faultIndex", "I", false)
def tyX7 : Nat → FieldType := fun k => match k with
  | 0 => .array .int
  | 1 => .int
  | 2 => .int
  | 3 => .int
  | _ => .int
abbrev wsX70 : List Cond := u_ws RX7 TX7 5
theorem nmX7 : ∀ a, a < 5 → ∀ b, b < 5 → a ≠ b → (TX7 a).2.1 ≠ (TX7 b).2.1 := by decide +kernel
theorem tyX7_ok : ∀ k, k < 5 → parseFieldDescriptor (TX7 k).2.2.1 = some (tyX7 k) := by decide +kernel
abbrev cX7_init : ByteArray := prog_9_method_1_code
def yX7_init : MethodName := ⟨RX7, "<init>", "()V"⟩
abbrev cX7_append : ByteArray := prog_9_method_2_code
def yX7_append : MethodName := ⟨RX7, "append", "(I)V"⟩
abbrev cX7_readInto : ByteArray := prog_9_method_3_code
def yX7_readInto : MethodName := ⟨RX7, "readInto", "(LFlashWheelReader$Wheel;)Z"⟩
abbrev cX7_readCells : ByteArray := prog_9_method_4_code
def yX7_readCells : MethodName := ⟨RX7, "readCells", "(LFlashWheelReader$Wheel;)V"⟩
abbrev cX7_readSpeed : ByteArray := prog_9_method_5_code
def yX7_readSpeed : MethodName := ⟨RX7, "readSpeed", "()I"⟩
abbrev cX7_readNumber : ByteArray := prog_9_method_6_code
def yX7_readNumber : MethodName := ⟨RX7, "readNumber", "(II)I"⟩
abbrev cX7_takes : ByteArray := prog_9_method_7_code
def yX7_takes : MethodName := ⟨RX7, "takes", "(I)Z"⟩
abbrev cX7_code : ByteArray := prog_9_method_8_code
def yX7_code : MethodName := ⟨RX7, "code", "()I"⟩
abbrev cX7_tellFault : ByteArray := prog_9_method_9_code
def yX7_tellFault : MethodName := ⟨RX7, "tellFault", "(II)V"⟩
abbrev cX7_isCell : ByteArray := prog_9_method_10_code
def yX7_isCell : MethodName := ⟨RX7, "isCell", "(I)Z"⟩
abbrev cX7_isDigit : ByteArray := prog_9_method_11_code
def yX7_isDigit : MethodName := ⟨RX7, "isDigit", "(I)Z"⟩
def RX8 : String := "FlashWheelReader"
def TX8 : u_T := fun k => match k with
  | 0 => ("FlashWheelReader", "now", "LFlashWheelReader$State;", true)
  | 1 => ("FlashWheelReader", "history", "LFlashWheelReader$History;", true)
  | 2 => ("FlashWheelReader", "text", "LFlashWheelReader$WheelText;", true)
  | 3 => ("FlashWheelReader", "loaded", "LFlashWheelReader$Wheel;", true)
  | _ => ("FlashWheelReader", "found", "LFlashWheelReader$Candidates;", true)
def tyX8 : Nat → FieldType := fun k => match k with
  | 0 => .object "FlashWheelReader$State"
  | 1 => .object "FlashWheelReader$History"
  | 2 => .object "FlashWheelReader$WheelText"
  | 3 => .object "FlashWheelReader$Wheel"
  | _ => .object "FlashWheelReader$Candidates"
abbrev wsX80 : List Cond := u_ws RX8 TX8 5
theorem nmX8 : ∀ a, a < 5 → ∀ b, b < 5 → a ≠ b → (TX8 a).2.1 ≠ (TX8 b).2.1 := by decide +kernel
theorem tyX8_ok : ∀ k, k < 5 → parseFieldDescriptor (TX8 k).2.2.1 = some (tyX8 k) := by decide +kernel
abbrev cX8_init : ByteArray := prog_1_method_1_code
def yX8_init : MethodName := ⟨RX8, "<init>", "()V"⟩
abbrev cX8_type : ByteArray := prog_1_method_2_code
def yX8_type : MethodName := ⟨RX8, "type", "(I)I"⟩
abbrev cX8_clearText : ByteArray := prog_1_method_3_code
def yX8_clearText : MethodName := ⟨RX8, "clearText", "()I"⟩
abbrev cX8_load : ByteArray := prog_1_method_4_code
def yX8_load : MethodName := ⟨RX8, "load", "()I"⟩
abbrev cX8_faultKind : ByteArray := prog_1_method_5_code
def yX8_faultKind : MethodName := ⟨RX8, "faultKind", "()I"⟩
abbrev cX8_setMark : ByteArray := prog_1_method_6_code
def yX8_setMark : MethodName := ⟨RX8, "setMark", "(II)I"⟩
abbrev cX8_setStart : ByteArray := prog_1_method_7_code
def yX8_setStart : MethodName := ⟨RX8, "setStart", "(I)I"⟩
abbrev cX8_setSpeed : ByteArray := prog_1_method_8_code
def yX8_setSpeed : MethodName := ⟨RX8, "setSpeed", "(II)I"⟩
abbrev cX8_dropChange : ByteArray := prog_1_method_9_code
def yX8_dropChange : MethodName := ⟨RX8, "dropChange", "(I)I"⟩
abbrev cX8_markAt : ByteArray := prog_1_method_10_code
def yX8_markAt : MethodName := ⟨RX8, "markAt", "(II)I"⟩
abbrev cX8_turn : ByteArray := prog_1_method_11_code
def yX8_turn : MethodName := ⟨RX8, "turn", "(I)I"⟩
abbrev cX8_setFlash : ByteArray := prog_1_method_12_code
def yX8_setFlash : MethodName := ⟨RX8, "setFlash", "(II)I"⟩
abbrev cX8_flash : ByteArray := prog_1_method_13_code
def yX8_flash : MethodName := ⟨RX8, "flash", "(II)I"⟩
abbrev cX8_step : ByteArray := prog_1_method_14_code
def yX8_step : MethodName := ⟨RX8, "step", "(II)I"⟩
abbrev cX8_seems : ByteArray := prog_1_method_15_code
def yX8_seems : MethodName := ⟨RX8, "seems", "(I)I"⟩
abbrev cX8_stillPeriod : ByteArray := prog_1_method_16_code
def yX8_stillPeriod : MethodName := ⟨RX8, "stillPeriod", "(II)I"⟩
abbrev cX8_read : ByteArray := prog_1_method_17_code
def yX8_read : MethodName := ⟨RX8, "read", "(II)I"⟩
abbrev cX8_look : ByteArray := prog_1_method_18_code
def yX8_look : MethodName := ⟨RX8, "look", "(I)I"⟩
abbrev cX8_dropReading : ByteArray := prog_1_method_19_code
def yX8_dropReading : MethodName := ⟨RX8, "dropReading", "(I)I"⟩
abbrev cX8_reading : ByteArray := prog_1_method_20_code
def yX8_reading : MethodName := ⟨RX8, "reading", "(II)I"⟩
abbrev cX8_setLimit : ByteArray := prog_1_method_21_code
def yX8_setLimit : MethodName := ⟨RX8, "setLimit", "(I)I"⟩
abbrev cX8_candidates : ByteArray := prog_1_method_22_code
def yX8_candidates : MethodName := ⟨RX8, "candidates", "()I"⟩
abbrev cX8_candidate : ByteArray := prog_1_method_23_code
def yX8_candidate : MethodName := ⟨RX8, "candidate", "(I)I"⟩
abbrev cX8_nearest : ByteArray := prog_1_method_24_code
def yX8_nearest : MethodName := ⟨RX8, "nearest", "(I)I"⟩
abbrev cX8_odd : ByteArray := prog_1_method_25_code
def yX8_odd : MethodName := ⟨RX8, "odd", "()I"⟩
abbrev cX8_bestPeriod : ByteArray := prog_1_method_26_code
def yX8_bestPeriod : MethodName := ⟨RX8, "bestPeriod", "(IZ)I"⟩
abbrev cX8_setDisc : ByteArray := prog_1_method_27_code
def yX8_setDisc : MethodName := ⟨RX8, "setDisc", "(II)I"⟩
abbrev cX8_turnDisc : ByteArray := prog_1_method_28_code
def yX8_turnDisc : MethodName := ⟨RX8, "turnDisc", "(II)I"⟩
abbrev cX8_isSeen : ByteArray := prog_1_method_29_code
def yX8_isSeen : MethodName := ⟨RX8, "isSeen", "(I)I"⟩
abbrev cX8_opening : ByteArray := prog_1_method_30_code
def yX8_opening : MethodName := ⟨RX8, "opening", "(II)I"⟩
abbrev cX8_smear : ByteArray := prog_1_method_31_code
def yX8_smear : MethodName := ⟨RX8, "smear", "(II)I"⟩
abbrev cX8_undo : ByteArray := prog_1_method_32_code
def yX8_undo : MethodName := ⟨RX8, "undo", "()I"⟩
abbrev cX8_count : ByteArray := prog_1_method_33_code
def yX8_count : MethodName := ⟨RX8, "count", "(I)I"⟩
abbrev cX8_digest : ByteArray := prog_1_method_34_code
def yX8_digest : MethodName := ⟨RX8, "digest", "()J"⟩
abbrev cX8_digestOfPictures : ByteArray := prog_1_method_35_code
def yX8_digestOfPictures : MethodName := ⟨RX8, "digestOfPictures", "(J)J"⟩
abbrev cX8_digestOfReadings : ByteArray := prog_1_method_36_code
def yX8_digestOfReadings : MethodName := ⟨RX8, "digestOfReadings", "(J)J"⟩
abbrev cX8_digestOfOpenings : ByteArray := prog_1_method_37_code
def yX8_digestOfOpenings : MethodName := ⟨RX8, "digestOfOpenings", "(J)J"⟩
abbrev cX8_addReading : ByteArray := prog_1_method_38_code
def yX8_addReading : MethodName := ⟨RX8, "addReading", "(II)I"⟩
abbrev cX8_findWithout : ByteArray := prog_1_method_39_code
def yX8_findWithout : MethodName := ⟨RX8, "findWithout", "(I)LFlashWheelReader$Candidates;"⟩
abbrev cX8_isPlace : ByteArray := prog_1_method_40_code
def yX8_isPlace : MethodName := ⟨RX8, "isPlace", "(I)Z"⟩
abbrev cX8_isFlash : ByteArray := prog_1_method_41_code
def yX8_isFlash : MethodName := ⟨RX8, "isFlash", "(I)Z"⟩
abbrev cX8_isReading : ByteArray := prog_1_method_42_code
def yX8_isReading : MethodName := ⟨RX8, "isReading", "(I)Z"⟩
abbrev cX8_isTick : ByteArray := prog_1_method_43_code
def yX8_isTick : MethodName := ⟨RX8, "isTick", "(I)Z"⟩
abbrev cX8_within : ByteArray := prog_1_method_44_code
def yX8_within : MethodName := ⟨RX8, "within", "(III)Z"⟩
abbrev cX8_mod : ByteArray := prog_1_method_45_code
def yX8_mod : MethodName := ⟨RX8, "mod", "(II)I"⟩
abbrev cX8_hasBit : ByteArray := prog_1_method_46_code
def yX8_hasBit : MethodName := ⟨RX8, "hasBit", "(JI)Z"⟩
abbrev cX8_at : ByteArray := prog_1_method_47_code
def yX8_at : MethodName := ⟨RX8, "at", "([II)I"⟩
abbrev cX8_put : ByteArray := prog_1_method_48_code
def yX8_put : MethodName := ⟨RX8, "put", "([III)V"⟩
abbrev cX8_copyRow : ByteArray := prog_1_method_49_code
def yX8_copyRow : MethodName := ⟨RX8, "copyRow", "([I[I)V"⟩
def RX9 : String := "FlashWheelReaderModel"
def TX9 : u_T := fun k => match k with
  | 0 => ("FlashWheelReaderModel", "page", "[I", true)
  | 1 => ("FlashWheelReaderModel", "backMany", "I", false)
  | 2 => ("FlashWheelReaderModel", "turns", "[I", true)
  | 3 => ("FlashWheelReaderModel", "around", "I", false)
  | 4 => ("FlashWheelReaderModel", "text", "[I", true)
  | 5 => ("FlashWheelReaderModel", "typed", "I", false)
  | 6 => ("FlashWheelReaderModel", "fault", "I", false)
  | 7 => ("FlashWheelReaderModel", "faultAt", "I", false)
  | 8 => ("FlashWheelReaderModel", "spot", "I", false)
  | 9 => ("FlashWheelReaderModel", "number", "I", false)
  | 10 => ("FlashWheelReaderModel", "was", "[Z", true)
  | 11 => ("FlashWheelReaderModel", "found", "[I", true)
  | 12 => ("FlashWheelReaderModel", "foundMany", "I", false)
  | 13 => ("FlashWheelReaderModel", "classes", "[I", true)
  | 14 => ("FlashWheelReaderModel", "openingFrom", "I", false)
  | 15 => ("FlashWheelReaderModel", "openingTo", "I", false)
  | _ => ("FlashWheelReaderModel", "hash", "J", false)
def tyX9 : Nat → FieldType := fun k => match k with
  | 0 => .array .int
  | 1 => .int
  | 2 => .array .int
  | 3 => .int
  | 4 => .array .int
  | 5 => .int
  | 6 => .int
  | 7 => .int
  | 8 => .int
  | 9 => .int
  | 10 => .array .boolean
  | 11 => .array .int
  | 12 => .int
  | 13 => .array .int
  | 14 => .int
  | 15 => .int
  | _ => .long
abbrev wsX90 : List Cond := u_ws RX9 TX9 17
theorem nmX9 : ∀ a, a < 17 → ∀ b, b < 17 → a ≠ b → (TX9 a).2.1 ≠ (TX9 b).2.1 := by decide +kernel
theorem tyX9_ok : ∀ k, k < 17 → parseFieldDescriptor (TX9 k).2.2.1 = some (tyX9 k) := by decide +kernel
abbrev cX9_init : ByteArray := prog_11_method_1_code
def yX9_init : MethodName := ⟨RX9, "<init>", "()V"⟩
abbrev cX9_in : ByteArray := prog_11_method_3_code
def yX9_in : MethodName := ⟨RX9, "in", "(III)Z"⟩
abbrev cX9_copies : ByteArray := prog_11_method_4_code
def yX9_copies : MethodName := ⟨RX9, "copies", "(II)V"⟩
abbrev cX9_records : ByteArray := prog_11_method_5_code
def yX9_records : MethodName := ⟨RX9, "records", "()V"⟩
abbrev cX9_undo : ByteArray := prog_11_method_6_code
def yX9_undo : MethodName := ⟨RX9, "undo", "()I"⟩
abbrev cX9_modulo : ByteArray := prog_11_method_7_code
def yX9_modulo : MethodName := ⟨RX9, "modulo", "(II)I"⟩
abbrev cX9_cells : ByteArray := prog_11_method_8_code
def yX9_cells : MethodName := ⟨RX9, "cells", "()I"⟩
abbrev cX9_measure : ByteArray := prog_11_method_9_code
def yX9_measure : MethodName := ⟨RX9, "measure", "()I"⟩
abbrev cX9_tickOf : ByteArray := prog_11_method_10_code
def yX9_tickOf : MethodName := ⟨RX9, "tickOf", "(I)I"⟩
abbrev cX9_laysTurns : ByteArray := prog_11_method_11_code
def yX9_laysTurns : MethodName := ⟨RX9, "laysTurns", "()V"⟩
abbrev cX9_isTick : ByteArray := prog_11_method_12_code
def yX9_isTick : MethodName := ⟨RX9, "isTick", "(I)Z"⟩
abbrev cX9_isCell : ByteArray := prog_11_method_13_code
def yX9_isCell : MethodName := ⟨RX9, "isCell", "(I)Z"⟩
abbrev cX9_seenAt : ByteArray := prog_11_method_14_code
def yX9_seenAt : MethodName := ⟨RX9, "seenAt", "(II)I"⟩
abbrev cX9_stepOf : ByteArray := prog_11_method_15_code
def yX9_stepOf : MethodName := ⟨RX9, "stepOf", "(II)I"⟩
abbrev cX9_isSamePicture : ByteArray := prog_11_method_16_code
def yX9_isSamePicture : MethodName := ⟨RX9, "isSamePicture", "(II)Z"⟩
abbrev cX9_type : ByteArray := prog_11_method_17_code
def yX9_type : MethodName := ⟨RX9, "type", "(I)I"⟩
abbrev cX9_clearText : ByteArray := prog_11_method_18_code
def yX9_clearText : MethodName := ⟨RX9, "clearText", "()I"⟩
abbrev cX9_here : ByteArray := prog_11_method_19_code
def yX9_here : MethodName := ⟨RX9, "here", "()I"⟩
abbrev cX9_isDigit : ByteArray := prog_11_method_20_code
def yX9_isDigit : MethodName := ⟨RX9, "isDigit", "()Z"⟩
abbrev cX9_fails : ByteArray := prog_11_method_21_code
def yX9_fails : MethodName := ⟨RX9, "fails", "(II)Z"⟩
abbrev cX9_readsNumber : ByteArray := prog_11_method_22_code
def yX9_readsNumber : MethodName := ⟨RX9, "readsNumber", "(IIII)Z"⟩
abbrev cX9_readsCells : ByteArray := prog_11_method_23_code
def yX9_readsCells : MethodName := ⟨RX9, "readsCells", "()Z"⟩
abbrev cX9_readsStart : ByteArray := prog_11_method_24_code
def yX9_readsStart : MethodName := ⟨RX9, "readsStart", "()Z"⟩
abbrev cX9_readsSpeed : ByteArray := prog_11_method_25_code
def yX9_readsSpeed : MethodName := ⟨RX9, "readsSpeed", "()Z"⟩
abbrev cX9_load : ByteArray := prog_11_method_26_code
def yX9_load : MethodName := ⟨RX9, "load", "()I"⟩
abbrev cX9_faultKind : ByteArray := prog_11_method_27_code
def yX9_faultKind : MethodName := ⟨RX9, "faultKind", "()I"⟩
abbrev cX9_becomes : ByteArray := prog_11_method_28_code
def yX9_becomes : MethodName := ⟨RX9, "becomes", "(II)I"⟩
abbrev cX9_setMark : ByteArray := prog_11_method_29_code
def yX9_setMark : MethodName := ⟨RX9, "setMark", "(II)I"⟩
abbrev cX9_setStart : ByteArray := prog_11_method_30_code
def yX9_setStart : MethodName := ⟨RX9, "setStart", "(I)I"⟩
abbrev cX9_changeFrom : ByteArray := prog_11_method_31_code
def yX9_changeFrom : MethodName := ⟨RX9, "changeFrom", "(I)I"⟩
abbrev cX9_isChange : ByteArray := prog_11_method_32_code
def yX9_isChange : MethodName := ⟨RX9, "isChange", "(I)Z"⟩
abbrev cX9_setSpeed : ByteArray := prog_11_method_33_code
def yX9_setSpeed : MethodName := ⟨RX9, "setSpeed", "(II)I"⟩
abbrev cX9_dropChange : ByteArray := prog_11_method_34_code
def yX9_dropChange : MethodName := ⟨RX9, "dropChange", "(I)I"⟩
abbrev cX9_markAt : ByteArray := prog_11_method_35_code
def yX9_markAt : MethodName := ⟨RX9, "markAt", "(II)I"⟩
abbrev cX9_turn : ByteArray := prog_11_method_36_code
def yX9_turn : MethodName := ⟨RX9, "turn", "(I)I"⟩
abbrev cX9_flashes : ByteArray := prog_11_method_37_code
def yX9_flashes : MethodName := ⟨RX9, "flashes", "()I"⟩
abbrev cX9_tickOfFlash : ByteArray := prog_11_method_38_code
def yX9_tickOfFlash : MethodName := ⟨RX9, "tickOfFlash", "(I)I"⟩
abbrev cX9_isFlash : ByteArray := prog_11_method_39_code
def yX9_isFlash : MethodName := ⟨RX9, "isFlash", "(I)Z"⟩
abbrev cX9_setFlash : ByteArray := prog_11_method_40_code
def yX9_setFlash : MethodName := ⟨RX9, "setFlash", "(II)I"⟩
abbrev cX9_earliest : ByteArray := prog_11_method_41_code
def yX9_earliest : MethodName := ⟨RX9, "earliest", "(I)I"⟩
abbrev cX9_stepBehind : ByteArray := prog_11_method_42_code
def yX9_stepBehind : MethodName := ⟨RX9, "stepBehind", "(I)I"⟩
abbrev cX9_flash : ByteArray := prog_11_method_43_code
def yX9_flash : MethodName := ⟨RX9, "flash", "(II)I"⟩
abbrev cX9_step : ByteArray := prog_11_method_44_code
def yX9_step : MethodName := ⟨RX9, "step", "(II)I"⟩
abbrev cX9_pictures : ByteArray := prog_11_method_45_code
def yX9_pictures : MethodName := ⟨RX9, "pictures", "()I"⟩
abbrev cX9_seems : ByteArray := prog_11_method_46_code
def yX9_seems : MethodName := ⟨RX9, "seems", "(I)I"⟩
abbrev cX9_stillPeriod : ByteArray := prog_11_method_47_code
def yX9_stillPeriod : MethodName := ⟨RX9, "stillPeriod", "(II)I"⟩
abbrev cX9_isReading : ByteArray := prog_11_method_48_code
def yX9_isReading : MethodName := ⟨RX9, "isReading", "(I)Z"⟩
abbrev cX9_adds : ByteArray := prog_11_method_49_code
def yX9_adds : MethodName := ⟨RX9, "adds", "(II)I"⟩
abbrev cX9_read : ByteArray := prog_11_method_50_code
def yX9_read : MethodName := ⟨RX9, "read", "(II)I"⟩
abbrev cX9_look : ByteArray := prog_11_method_51_code
def yX9_look : MethodName := ⟨RX9, "look", "(I)I"⟩
abbrev cX9_dropReading : ByteArray := prog_11_method_52_code
def yX9_dropReading : MethodName := ⟨RX9, "dropReading", "(I)I"⟩
abbrev cX9_finds : ByteArray := prog_11_method_53_code
def yX9_finds : MethodName := ⟨RX9, "finds", "(I)V"⟩
abbrev cX9_reading : ByteArray := prog_11_method_54_code
def yX9_reading : MethodName := ⟨RX9, "reading", "(II)I"⟩
abbrev cX9_setLimit : ByteArray := prog_11_method_55_code
def yX9_setLimit : MethodName := ⟨RX9, "setLimit", "(I)I"⟩
abbrev cX9_candidates : ByteArray := prog_11_method_56_code
def yX9_candidates : MethodName := ⟨RX9, "candidates", "()I"⟩
abbrev cX9_candidate : ByteArray := prog_11_method_57_code
def yX9_candidate : MethodName := ⟨RX9, "candidate", "(I)I"⟩
abbrev cX9_apart : ByteArray := prog_11_method_58_code
def yX9_apart : MethodName := ⟨RX9, "apart", "(II)I"⟩
abbrev cX9_nearest : ByteArray := prog_11_method_59_code
def yX9_nearest : MethodName := ⟨RX9, "nearest", "(I)I"⟩
abbrev cX9_odd : ByteArray := prog_11_method_60_code
def yX9_odd : MethodName := ⟨RX9, "odd", "()I"⟩
abbrev cX9_restOf : ByteArray := prog_11_method_61_code
def yX9_restOf : MethodName := ⟨RX9, "restOf", "(II)I"⟩
abbrev cX9_bestPeriod : ByteArray := prog_11_method_62_code
def yX9_bestPeriod : MethodName := ⟨RX9, "bestPeriod", "(IZ)I"⟩
abbrev cX9_setDisc : ByteArray := prog_11_method_63_code
def yX9_setDisc : MethodName := ⟨RX9, "setDisc", "(II)I"⟩
abbrev cX9_turnDisc : ByteArray := prog_11_method_64_code
def yX9_turnDisc : MethodName := ⟨RX9, "turnDisc", "(II)I"⟩
abbrev cX9_isOpen : ByteArray := prog_11_method_65_code
def yX9_isOpen : MethodName := ⟨RX9, "isOpen", "(I)Z"⟩
abbrev cX9_isSeen : ByteArray := prog_11_method_66_code
def yX9_isSeen : MethodName := ⟨RX9, "isSeen", "(I)I"⟩
abbrev cX9_goesTo : ByteArray := prog_11_method_67_code
def yX9_goesTo : MethodName := ⟨RX9, "goesTo", "(I)I"⟩
abbrev cX9_smearAt : ByteArray := prog_11_method_68_code
def yX9_smearAt : MethodName := ⟨RX9, "smearAt", "(I)I"⟩
abbrev cX9_smeared : ByteArray := prog_11_method_69_code
def yX9_smeared : MethodName := ⟨RX9, "smeared", "()I"⟩
abbrev cX9_isStill : ByteArray := prog_11_method_70_code
def yX9_isStill : MethodName := ⟨RX9, "isStill", "()Z"⟩
abbrev cX9_opening : ByteArray := prog_11_method_71_code
def yX9_opening : MethodName := ⟨RX9, "opening", "(II)I"⟩
abbrev cX9_smear : ByteArray := prog_11_method_72_code
def yX9_smear : MethodName := ⟨RX9, "smear", "(II)I"⟩
abbrev cX9_marks : ByteArray := prog_11_method_73_code
def yX9_marks : MethodName := ⟨RX9, "marks", "()I"⟩
abbrev cX9_count : ByteArray := prog_11_method_74_code
def yX9_count : MethodName := ⟨RX9, "count", "(I)I"⟩
abbrev cX9_mixes : ByteArray := prog_11_method_75_code
def yX9_mixes : MethodName := ⟨RX9, "mixes", "(I)V"⟩
abbrev cX9_mixesReadings : ByteArray := prog_11_method_76_code
def yX9_mixesReadings : MethodName := ⟨RX9, "mixesReadings", "()V"⟩
abbrev cX9_digest : ByteArray := prog_11_method_77_code
def yX9_digest : MethodName := ⟨RX9, "digest", "()J"⟩
def RJ6 : String := "java/lang/Integer"
def TJ6 : u_T := fun k => match k with
  | _ => ("", "", "", false)
def tyJ6 : Nat → FieldType := fun k => match k with
  | _ => .int
abbrev wsJ60 : List Cond := u_ws RJ6 TJ6 0
theorem nmJ6 : ∀ a, a < 0 → ∀ b, b < 0 → a ≠ b → (TJ6 a).2.1 ≠ (TJ6 b).2.1 := by decide +kernel
theorem tyJ6_ok : ∀ k, k < 0 → parseFieldDescriptor (TJ6 k).2.2.1 = some (tyJ6 k) := by decide +kernel
abbrev cJ6_bitCount_0f7a4 : ByteArray := prog_12_method_49_code
def yJ6_bitCount_0f7a4 : MethodName := ⟨RJ6, "bitCount", "(I)I"⟩
def RJ13 : String := "java/lang/Long"
def TJ13 : u_T := fun k => match k with
  | _ => ("", "", "", false)
def tyJ13 : Nat → FieldType := fun k => match k with
  | _ => .int
abbrev wsJ130 : List Cond := u_ws RJ13 TJ13 0
theorem nmJ13 : ∀ a, a < 0 → ∀ b, b < 0 → a ≠ b → (TJ13 a).2.1 ≠ (TJ13 b).2.1 := by decide +kernel
theorem tyJ13_ok : ∀ k, k < 0 → parseFieldDescriptor (TJ13 k).2.2.1 = some (tyJ13 k) := by decide +kernel
abbrev cJ13_bitCount_95d88 : ByteArray := prog_13_method_50_code
def yJ13_bitCount_95d88 : MethodName := ⟨RJ13, "bitCount", "(J)I"⟩
def RJ9 : String := "java/lang/Math"
def TJ9 : u_T := fun k => match k with
  | _ => ("", "", "", false)
def tyJ9 : Nat → FieldType := fun k => match k with
  | _ => .int
abbrev wsJ90 : List Cond := u_ws RJ9 TJ9 0
theorem nmJ9 : ∀ a, a < 0 → ∀ b, b < 0 → a ≠ b → (TJ9 a).2.1 ≠ (TJ9 b).2.1 := by decide +kernel
theorem tyJ9_ok : ∀ k, k < 0 → parseFieldDescriptor (TJ9 k).2.2.1 = some (tyJ9 k) := by decide +kernel
abbrev cJ9_abs_0f7a4 : ByteArray := prog_14_method_59_code
def yJ9_abs_0f7a4 : MethodName := ⟨RJ9, "abs", "(I)I"⟩
abbrev cJ9_max_7cf53 : ByteArray := prog_14_method_65_code
def yJ9_max_7cf53 : MethodName := ⟨RJ9, "max", "(II)I"⟩
def RL : String := "FlashWheelReaderLaw"
abbrev cL_law : ByteArray := code
def yL_law : MethodName := ⟨RL, "law", "([I)Z"⟩
abbrev vwCl : List vw_C := [(RX0, TX0, 5), (RX1, TX1, 4), (RX2, TX2, 2), (RX3, TX3, 3), (RX4, TX4, 4), (RX5, TX5, 4), (RX6, TX6, 7), (RX7, TX7, 5), (RX8, TX8, 5), (RX9, TX9, 17)]
end
section
theorem dX0_init_0 : decode cX0_init 0 = .ok (.aload_n 0, 1) := by decide +kernel
theorem dX0_init_1 : decode cX0_init 1 = .ok (.invokespecial 3, 3) := by decide +kernel
theorem dX0_init_4 : decode cX0_init 4 = .ok (.aload_n 0, 1) := by decide +kernel
theorem dX0_init_5 : decode cX0_init 5 = .ok (.bipush 60, 2) := by decide +kernel
theorem dX0_init_7 : decode cX0_init 7 = .ok (.newarray .int, 2) := by decide +kernel
theorem dX0_init_9 : decode cX0_init 9 = .ok (.putfield 9, 3) := by decide +kernel
theorem dX0_init_12 : decode cX0_init 12 = .ok (.aload_n 0, 1) := by decide +kernel
theorem dX0_init_13 : decode cX0_init 13 = .ok (.bipush 60, 2) := by decide +kernel
theorem dX0_init_15 : decode cX0_init 15 = .ok (.newarray .int, 2) := by decide +kernel
theorem dX0_init_17 : decode cX0_init 17 = .ok (.putfield 15, 3) := by decide +kernel
theorem dX0_init_20 : decode cX0_init 20 = .ok (.return_, 1) := by decide +kernel
theorem dX0_find_0 : decode cX0_find 0 = .ok (.aload_n 0, 1) := by decide +kernel
theorem dX0_find_1 : decode cX0_find 1 = .ok (.iload_n 1, 1) := by decide +kernel
theorem dX0_find_2 : decode cX0_find 2 = .ok (.putfield 18, 3) := by decide +kernel
theorem dX0_find_5 : decode cX0_find 5 = .ok (.aload_n 0, 1) := by decide +kernel
theorem dX0_find_6 : decode cX0_find 6 = .ok (.aload_n 2, 1) := by decide +kernel
theorem dX0_find_7 : decode cX0_find 7 = .ok (.getfield 22, 3) := by decide +kernel
theorem dX0_find_10 : decode cX0_find 10 = .ok (.putfield 27, 3) := by decide +kernel
theorem dX0_find_13 : decode cX0_find 13 = .ok (.aload_n 0, 1) := by decide +kernel
theorem dX0_find_14 : decode cX0_find 14 = .ok (.lconst 0, 1) := by decide +kernel
theorem dX0_find_15 : decode cX0_find 15 = .ok (.putfield 28, 3) := by decide +kernel
theorem dX0_find_18 : decode cX0_find 18 = .ok (.iconst 0, 1) := by decide +kernel
theorem dX0_find_19 : decode cX0_find 19 = .ok (.istore 4, 2) := by decide +kernel
theorem dX0_find_21 : decode cX0_find 21 = .ok (.iload 4, 2) := by decide +kernel
theorem dX0_find_23 : decode cX0_find 23 = .ok (.aload_n 0, 1) := by decide +kernel
theorem dX0_find_24 : decode cX0_find 24 = .ok (.getfield 18, 3) := by decide +kernel
theorem dX0_find_27 : decode cX0_find 27 = .ok (.if_icmp .ge 36, 3) := by decide +kernel
theorem dX0_find_30 : decode cX0_find 30 = .ok (.aload_n 2, 1) := by decide +kernel
theorem dX0_find_31 : decode cX0_find 31 = .ok (.iload 4, 2) := by decide +kernel
theorem dX0_find_33 : decode cX0_find 33 = .ok (.aload_n 0, 1) := by decide +kernel
theorem dX0_find_34 : decode cX0_find 34 = .ok (.getfield 18, 3) := by decide +kernel
theorem dX0_find_37 : decode cX0_find 37 = .ok (.iload_n 3, 1) := by decide +kernel
theorem dX0_find_38 : decode cX0_find 38 = .ok (.invokevirtual 32, 3) := by decide +kernel
theorem dX0_find_41 : decode cX0_find 41 = .ok (.ifCond .eq 16, 3) := by decide +kernel
theorem dX0_find_44 : decode cX0_find 44 = .ok (.aload_n 0, 1) := by decide +kernel
theorem dX0_find_45 : decode cX0_find 45 = .ok (.dup, 1) := by decide +kernel
theorem dX0_find_46 : decode cX0_find 46 = .ok (.getfield 28, 3) := by decide +kernel
theorem dX0_find_49 : decode cX0_find 49 = .ok (.lconst 1, 1) := by decide +kernel
theorem dX0_find_50 : decode cX0_find 50 = .ok (.iload 4, 2) := by decide +kernel
theorem dX0_find_52 : decode cX0_find 52 = .ok (.lshl, 1) := by decide +kernel
theorem dX0_find_53 : decode cX0_find 53 = .ok (.lor, 1) := by decide +kernel
theorem dX0_find_54 : decode cX0_find 54 = .ok (.putfield 28, 3) := by decide +kernel
theorem dX0_find_57 : decode cX0_find 57 = .ok (.iinc 4 1, 3) := by decide +kernel
theorem dX0_find_60 : decode cX0_find 60 = .ok (.goto (-39), 3) := by decide +kernel
theorem dX0_find_63 : decode cX0_find 63 = .ok (.return_, 1) := by decide +kernel
theorem dX0_has_0 : decode cX0_has 0 = .ok (.aload_n 0, 1) := by decide +kernel
theorem dX0_has_1 : decode cX0_has 1 = .ok (.getfield 28, 3) := by decide +kernel
theorem dX0_has_4 : decode cX0_has 4 = .ok (.iload_n 1, 1) := by decide +kernel
theorem dX0_has_5 : decode cX0_has 5 = .ok (.aload_n 0, 1) := by decide +kernel
theorem dX0_has_6 : decode cX0_has 6 = .ok (.getfield 18, 3) := by decide +kernel
theorem dX0_has_9 : decode cX0_has 9 = .ok (.invokestatic 36, 3) := by decide +kernel
theorem dX0_has_12 : decode cX0_has 12 = .ok (.invokestatic 40, 3) := by decide +kernel
theorem dX0_has_15 : decode cX0_has 15 = .ok (.ireturn, 1) := by decide +kernel
theorem dX0_number_0 : decode cX0_number 0 = .ok (.iconst 0, 1) := by decide +kernel
theorem dX0_number_1 : decode cX0_number 1 = .ok (.istore_n 1, 1) := by decide +kernel
theorem dX0_number_2 : decode cX0_number 2 = .ok (.aload_n 0, 1) := by decide +kernel
theorem dX0_number_3 : decode cX0_number 3 = .ok (.getfield 27, 3) := by decide +kernel
theorem dX0_number_6 : decode cX0_number 6 = .ok (.ineg, 1) := by decide +kernel
theorem dX0_number_7 : decode cX0_number 7 = .ok (.istore_n 2, 1) := by decide +kernel
theorem dX0_number_8 : decode cX0_number 8 = .ok (.iload_n 2, 1) := by decide +kernel
theorem dX0_number_9 : decode cX0_number 9 = .ok (.aload_n 0, 1) := by decide +kernel
theorem dX0_number_10 : decode cX0_number 10 = .ok (.getfield 27, 3) := by decide +kernel
theorem dX0_number_13 : decode cX0_number 13 = .ok (.if_icmp .gt 20, 3) := by decide +kernel
theorem dX0_number_16 : decode cX0_number 16 = .ok (.aload_n 0, 1) := by decide +kernel
theorem dX0_number_17 : decode cX0_number 17 = .ok (.iload_n 2, 1) := by decide +kernel
theorem dX0_number_18 : decode cX0_number 18 = .ok (.invokevirtual 44, 3) := by decide +kernel
theorem dX0_number_21 : decode cX0_number 21 = .ok (.ifCond .eq 6, 3) := by decide +kernel
theorem dX0_number_24 : decode cX0_number 24 = .ok (.iinc 1 1, 3) := by decide +kernel
theorem dX0_number_27 : decode cX0_number 27 = .ok (.iinc 2 1, 3) := by decide +kernel
theorem dX0_number_30 : decode cX0_number 30 = .ok (.goto (-22), 3) := by decide +kernel
theorem dX0_number_33 : decode cX0_number 33 = .ok (.iload_n 1, 1) := by decide +kernel
theorem dX0_number_34 : decode cX0_number 34 = .ok (.ireturn, 1) := by decide +kernel
theorem dX0_inOrder_0 : decode cX0_inOrder 0 = .ok (.iconst 0, 1) := by decide +kernel
theorem dX0_inOrder_1 : decode cX0_inOrder 1 = .ok (.istore_n 2, 1) := by decide +kernel
theorem dX0_inOrder_2 : decode cX0_inOrder 2 = .ok (.aload_n 0, 1) := by decide +kernel
theorem dX0_inOrder_3 : decode cX0_inOrder 3 = .ok (.getfield 27, 3) := by decide +kernel
theorem dX0_inOrder_6 : decode cX0_inOrder 6 = .ok (.ineg, 1) := by decide +kernel
theorem dX0_inOrder_7 : decode cX0_inOrder 7 = .ok (.istore_n 3, 1) := by decide +kernel
theorem dX0_inOrder_8 : decode cX0_inOrder 8 = .ok (.iload_n 3, 1) := by decide +kernel
theorem dX0_inOrder_9 : decode cX0_inOrder 9 = .ok (.aload_n 0, 1) := by decide +kernel
theorem dX0_inOrder_10 : decode cX0_inOrder 10 = .ok (.getfield 27, 3) := by decide +kernel
theorem dX0_inOrder_13 : decode cX0_inOrder 13 = .ok (.if_icmp .gt 27, 3) := by decide +kernel
theorem dX0_inOrder_16 : decode cX0_inOrder 16 = .ok (.aload_n 0, 1) := by decide +kernel
theorem dX0_inOrder_17 : decode cX0_inOrder 17 = .ok (.iload_n 3, 1) := by decide +kernel
theorem dX0_inOrder_18 : decode cX0_inOrder 18 = .ok (.invokevirtual 44, 3) := by decide +kernel
theorem dX0_inOrder_21 : decode cX0_inOrder 21 = .ok (.ifCond .eq 13, 3) := by decide +kernel
theorem dX0_inOrder_24 : decode cX0_inOrder 24 = .ok (.iload_n 2, 1) := by decide +kernel
theorem dX0_inOrder_25 : decode cX0_inOrder 25 = .ok (.iload_n 1, 1) := by decide +kernel
theorem dX0_inOrder_26 : decode cX0_inOrder 26 = .ok (.if_icmp .ne 5, 3) := by decide +kernel
theorem dX0_inOrder_29 : decode cX0_inOrder 29 = .ok (.iload_n 3, 1) := by decide +kernel
theorem dX0_inOrder_30 : decode cX0_inOrder 30 = .ok (.ireturn, 1) := by decide +kernel
theorem dX0_inOrder_31 : decode cX0_inOrder 31 = .ok (.iinc 2 1, 3) := by decide +kernel
theorem dX0_inOrder_34 : decode cX0_inOrder 34 = .ok (.iinc 3 1, 3) := by decide +kernel
theorem dX0_inOrder_37 : decode cX0_inOrder 37 = .ok (.goto (-29), 3) := by decide +kernel
theorem dX0_inOrder_40 : decode cX0_inOrder 40 = .ok (.sipush (-1004), 3) := by decide +kernel
theorem dX0_inOrder_43 : decode cX0_inOrder 43 = .ok (.ireturn, 1) := by decide +kernel
theorem dX0_nearestTo_0 : decode cX0_nearestTo 0 = .ok (.sipush (-1004), 3) := by decide +kernel
theorem dX0_nearestTo_3 : decode cX0_nearestTo 3 = .ok (.istore_n 2, 1) := by decide +kernel
theorem dX0_nearestTo_4 : decode cX0_nearestTo 4 = .ok (.ldc 50, 2) := by decide +kernel
theorem dX0_nearestTo_6 : decode cX0_nearestTo 6 = .ok (.istore_n 3, 1) := by decide +kernel
theorem dX0_nearestTo_7 : decode cX0_nearestTo 7 = .ok (.aload_n 0, 1) := by decide +kernel
theorem dX0_nearestTo_8 : decode cX0_nearestTo 8 = .ok (.getfield 27, 3) := by decide +kernel
theorem dX0_nearestTo_11 : decode cX0_nearestTo 11 = .ok (.ineg, 1) := by decide +kernel
theorem dX0_nearestTo_12 : decode cX0_nearestTo 12 = .ok (.istore 4, 2) := by decide +kernel
theorem dX0_nearestTo_14 : decode cX0_nearestTo 14 = .ok (.iload 4, 2) := by decide +kernel
theorem dX0_nearestTo_16 : decode cX0_nearestTo 16 = .ok (.aload_n 0, 1) := by decide +kernel
theorem dX0_nearestTo_17 : decode cX0_nearestTo 17 = .ok (.getfield 27, 3) := by decide +kernel
theorem dX0_nearestTo_20 : decode cX0_nearestTo 20 = .ok (.if_icmp .gt 39, 3) := by decide +kernel
theorem dX0_nearestTo_23 : decode cX0_nearestTo 23 = .ok (.iload 4, 2) := by decide +kernel
theorem dX0_nearestTo_25 : decode cX0_nearestTo 25 = .ok (.iload_n 1, 1) := by decide +kernel
theorem dX0_nearestTo_26 : decode cX0_nearestTo 26 = .ok (.isub, 1) := by decide +kernel
theorem dX0_nearestTo_27 : decode cX0_nearestTo 27 = .ok (.invokestatic 51, 3) := by decide +kernel
theorem dX0_nearestTo_30 : decode cX0_nearestTo 30 = .ok (.istore 5, 2) := by decide +kernel
theorem dX0_nearestTo_32 : decode cX0_nearestTo 32 = .ok (.iload 5, 2) := by decide +kernel
theorem dX0_nearestTo_34 : decode cX0_nearestTo 34 = .ok (.iload_n 3, 1) := by decide +kernel
theorem dX0_nearestTo_35 : decode cX0_nearestTo 35 = .ok (.if_icmp .ge 18, 3) := by decide +kernel
theorem dX0_nearestTo_38 : decode cX0_nearestTo 38 = .ok (.aload_n 0, 1) := by decide +kernel
theorem dX0_nearestTo_39 : decode cX0_nearestTo 39 = .ok (.iload 4, 2) := by decide +kernel
theorem dX0_nearestTo_41 : decode cX0_nearestTo 41 = .ok (.invokevirtual 44, 3) := by decide +kernel
theorem dX0_nearestTo_44 : decode cX0_nearestTo 44 = .ok (.ifCond .eq 9, 3) := by decide +kernel
theorem dX0_nearestTo_47 : decode cX0_nearestTo 47 = .ok (.iload 5, 2) := by decide +kernel
theorem dX0_nearestTo_49 : decode cX0_nearestTo 49 = .ok (.istore_n 3, 1) := by decide +kernel
theorem dX0_nearestTo_50 : decode cX0_nearestTo 50 = .ok (.iload 4, 2) := by decide +kernel
theorem dX0_nearestTo_52 : decode cX0_nearestTo 52 = .ok (.istore_n 2, 1) := by decide +kernel
theorem dX0_nearestTo_53 : decode cX0_nearestTo 53 = .ok (.iinc 4 1, 3) := by decide +kernel
theorem dX0_nearestTo_56 : decode cX0_nearestTo 56 = .ok (.goto (-42), 3) := by decide +kernel
theorem dX0_nearestTo_59 : decode cX0_nearestTo 59 = .ok (.iload_n 2, 1) := by decide +kernel
theorem dX0_nearestTo_60 : decode cX0_nearestTo 60 = .ok (.ireturn, 1) := by decide +kernel
theorem dX0_countByRemainder_0 : decode cX0_countByRemainder 0 = .ok (.iconst 0, 1) := by decide +kernel
theorem dX0_countByRemainder_1 : decode cX0_countByRemainder 1 = .ok (.istore_n 1, 1) := by decide +kernel
theorem dX0_countByRemainder_2 : decode cX0_countByRemainder 2 = .ok (.iload_n 1, 1) := by decide +kernel
theorem dX0_countByRemainder_3 : decode cX0_countByRemainder 3 = .ok (.aload_n 0, 1) := by decide +kernel
theorem dX0_countByRemainder_4 : decode cX0_countByRemainder 4 = .ok (.getfield 18, 3) := by decide +kernel
theorem dX0_countByRemainder_7 : decode cX0_countByRemainder 7 = .ok (.if_icmp .ge 18, 3) := by decide +kernel
theorem dX0_countByRemainder_10 : decode cX0_countByRemainder 10 = .ok (.aload_n 0, 1) := by decide +kernel
theorem dX0_countByRemainder_11 : decode cX0_countByRemainder 11 = .ok (.getfield 9, 3) := by decide +kernel
theorem dX0_countByRemainder_14 : decode cX0_countByRemainder 14 = .ok (.iload_n 1, 1) := by decide +kernel
theorem dX0_countByRemainder_15 : decode cX0_countByRemainder 15 = .ok (.iconst 0, 1) := by decide +kernel
theorem dX0_countByRemainder_16 : decode cX0_countByRemainder 16 = .ok (.invokestatic 57, 3) := by decide +kernel
theorem dX0_countByRemainder_19 : decode cX0_countByRemainder 19 = .ok (.iinc 1 1, 3) := by decide +kernel
theorem dX0_countByRemainder_22 : decode cX0_countByRemainder 22 = .ok (.goto (-20), 3) := by decide +kernel
theorem dX0_countByRemainder_25 : decode cX0_countByRemainder 25 = .ok (.aload_n 0, 1) := by decide +kernel
theorem dX0_countByRemainder_26 : decode cX0_countByRemainder 26 = .ok (.getfield 27, 3) := by decide +kernel
theorem dX0_countByRemainder_29 : decode cX0_countByRemainder 29 = .ok (.ineg, 1) := by decide +kernel
theorem dX0_countByRemainder_30 : decode cX0_countByRemainder 30 = .ok (.istore_n 1, 1) := by decide +kernel
theorem dX0_countByRemainder_31 : decode cX0_countByRemainder 31 = .ok (.iload_n 1, 1) := by decide +kernel
theorem dX0_countByRemainder_32 : decode cX0_countByRemainder 32 = .ok (.aload_n 0, 1) := by decide +kernel
theorem dX0_countByRemainder_33 : decode cX0_countByRemainder 33 = .ok (.getfield 27, 3) := by decide +kernel
theorem dX0_countByRemainder_36 : decode cX0_countByRemainder 36 = .ok (.if_icmp .gt 44, 3) := by decide +kernel
theorem dX0_countByRemainder_39 : decode cX0_countByRemainder 39 = .ok (.iload_n 1, 1) := by decide +kernel
theorem dX0_countByRemainder_40 : decode cX0_countByRemainder 40 = .ok (.aload_n 0, 1) := by decide +kernel
theorem dX0_countByRemainder_41 : decode cX0_countByRemainder 41 = .ok (.getfield 18, 3) := by decide +kernel
theorem dX0_countByRemainder_44 : decode cX0_countByRemainder 44 = .ok (.invokestatic 36, 3) := by decide +kernel
theorem dX0_countByRemainder_47 : decode cX0_countByRemainder 47 = .ok (.istore_n 2, 1) := by decide +kernel
theorem dX0_countByRemainder_48 : decode cX0_countByRemainder 48 = .ok (.aload_n 0, 1) := by decide +kernel
theorem dX0_countByRemainder_49 : decode cX0_countByRemainder 49 = .ok (.iload_n 1, 1) := by decide +kernel
theorem dX0_countByRemainder_50 : decode cX0_countByRemainder 50 = .ok (.invokevirtual 44, 3) := by decide +kernel
theorem dX0_countByRemainder_53 : decode cX0_countByRemainder 53 = .ok (.ifCond .eq 21, 3) := by decide +kernel
theorem dX0_countByRemainder_56 : decode cX0_countByRemainder 56 = .ok (.aload_n 0, 1) := by decide +kernel
theorem dX0_countByRemainder_57 : decode cX0_countByRemainder 57 = .ok (.getfield 9, 3) := by decide +kernel
theorem dX0_countByRemainder_60 : decode cX0_countByRemainder 60 = .ok (.iload_n 2, 1) := by decide +kernel
theorem dX0_countByRemainder_61 : decode cX0_countByRemainder 61 = .ok (.aload_n 0, 1) := by decide +kernel
theorem dX0_countByRemainder_62 : decode cX0_countByRemainder 62 = .ok (.getfield 9, 3) := by decide +kernel
theorem dX0_countByRemainder_65 : decode cX0_countByRemainder 65 = .ok (.iload_n 2, 1) := by decide +kernel
theorem dX0_countByRemainder_66 : decode cX0_countByRemainder 66 = .ok (.invokestatic 61, 3) := by decide +kernel
theorem dX0_countByRemainder_69 : decode cX0_countByRemainder 69 = .ok (.iconst 1, 1) := by decide +kernel
theorem dX0_countByRemainder_70 : decode cX0_countByRemainder 70 = .ok (.iadd, 1) := by decide +kernel
theorem dX0_countByRemainder_71 : decode cX0_countByRemainder 71 = .ok (.invokestatic 57, 3) := by decide +kernel
theorem dX0_countByRemainder_74 : decode cX0_countByRemainder 74 = .ok (.iinc 1 1, 3) := by decide +kernel
theorem dX0_countByRemainder_77 : decode cX0_countByRemainder 77 = .ok (.goto (-46), 3) := by decide +kernel
theorem dX0_countByRemainder_80 : decode cX0_countByRemainder 80 = .ok (.return_, 1) := by decide +kernel
theorem dX0_restOf_0 : decode cX0_restOf 0 = .ok (.iconst 0, 1) := by decide +kernel
theorem dX0_restOf_1 : decode cX0_restOf 1 = .ok (.istore_n 2, 1) := by decide +kernel
theorem dX0_restOf_2 : decode cX0_restOf 2 = .ok (.iload_n 2, 1) := by decide +kernel
theorem dX0_restOf_3 : decode cX0_restOf 3 = .ok (.aload_n 0, 1) := by decide +kernel
theorem dX0_restOf_4 : decode cX0_restOf 4 = .ok (.getfield 18, 3) := by decide +kernel
theorem dX0_restOf_7 : decode cX0_restOf 7 = .ok (.if_icmp .ge 18, 3) := by decide +kernel
theorem dX0_restOf_10 : decode cX0_restOf 10 = .ok (.aload_n 0, 1) := by decide +kernel
theorem dX0_restOf_11 : decode cX0_restOf 11 = .ok (.getfield 15, 3) := by decide +kernel
theorem dX0_restOf_14 : decode cX0_restOf 14 = .ok (.iload_n 2, 1) := by decide +kernel
theorem dX0_restOf_15 : decode cX0_restOf 15 = .ok (.iconst 0, 1) := by decide +kernel
theorem dX0_restOf_16 : decode cX0_restOf 16 = .ok (.invokestatic 57, 3) := by decide +kernel
theorem dX0_restOf_19 : decode cX0_restOf 19 = .ok (.iinc 2 1, 3) := by decide +kernel
theorem dX0_restOf_22 : decode cX0_restOf 22 = .ok (.goto (-20), 3) := by decide +kernel
theorem dX0_restOf_25 : decode cX0_restOf 25 = .ok (.iconst 0, 1) := by decide +kernel
theorem dX0_restOf_26 : decode cX0_restOf 26 = .ok (.istore_n 2, 1) := by decide +kernel
theorem dX0_restOf_27 : decode cX0_restOf 27 = .ok (.iconst 0, 1) := by decide +kernel
theorem dX0_restOf_28 : decode cX0_restOf 28 = .ok (.istore_n 3, 1) := by decide +kernel
theorem dX0_restOf_29 : decode cX0_restOf 29 = .ok (.iload_n 3, 1) := by decide +kernel
theorem dX0_restOf_30 : decode cX0_restOf 30 = .ok (.aload_n 0, 1) := by decide +kernel
theorem dX0_restOf_31 : decode cX0_restOf 31 = .ok (.getfield 18, 3) := by decide +kernel
theorem dX0_restOf_34 : decode cX0_restOf 34 = .ok (.if_icmp .ge 62, 3) := by decide +kernel
theorem dX0_restOf_37 : decode cX0_restOf 37 = .ok (.iload_n 3, 1) := by decide +kernel
theorem dX0_restOf_38 : decode cX0_restOf 38 = .ok (.iload_n 1, 1) := by decide +kernel
theorem dX0_restOf_39 : decode cX0_restOf 39 = .ok (.imul, 1) := by decide +kernel
theorem dX0_restOf_40 : decode cX0_restOf 40 = .ok (.aload_n 0, 1) := by decide +kernel
theorem dX0_restOf_41 : decode cX0_restOf 41 = .ok (.getfield 18, 3) := by decide +kernel
theorem dX0_restOf_44 : decode cX0_restOf 44 = .ok (.invokestatic 36, 3) := by decide +kernel
theorem dX0_restOf_47 : decode cX0_restOf 47 = .ok (.istore 4, 2) := by decide +kernel
theorem dX0_restOf_49 : decode cX0_restOf 49 = .ok (.aload_n 0, 1) := by decide +kernel
theorem dX0_restOf_50 : decode cX0_restOf 50 = .ok (.getfield 15, 3) := by decide +kernel
theorem dX0_restOf_53 : decode cX0_restOf 53 = .ok (.iload 4, 2) := by decide +kernel
theorem dX0_restOf_55 : decode cX0_restOf 55 = .ok (.aload_n 0, 1) := by decide +kernel
theorem dX0_restOf_56 : decode cX0_restOf 56 = .ok (.getfield 15, 3) := by decide +kernel
theorem dX0_restOf_59 : decode cX0_restOf 59 = .ok (.iload 4, 2) := by decide +kernel
theorem dX0_restOf_61 : decode cX0_restOf 61 = .ok (.invokestatic 61, 3) := by decide +kernel
theorem dX0_restOf_64 : decode cX0_restOf 64 = .ok (.aload_n 0, 1) := by decide +kernel
theorem dX0_restOf_65 : decode cX0_restOf 65 = .ok (.getfield 9, 3) := by decide +kernel
theorem dX0_restOf_68 : decode cX0_restOf 68 = .ok (.iload_n 3, 1) := by decide +kernel
theorem dX0_restOf_69 : decode cX0_restOf 69 = .ok (.invokestatic 61, 3) := by decide +kernel
theorem dX0_restOf_72 : decode cX0_restOf 72 = .ok (.iadd, 1) := by decide +kernel
theorem dX0_restOf_73 : decode cX0_restOf 73 = .ok (.invokestatic 57, 3) := by decide +kernel
theorem dX0_restOf_76 : decode cX0_restOf 76 = .ok (.iload_n 2, 1) := by decide +kernel
theorem dX0_restOf_77 : decode cX0_restOf 77 = .ok (.aload_n 0, 1) := by decide +kernel
theorem dX0_restOf_78 : decode cX0_restOf 78 = .ok (.getfield 15, 3) := by decide +kernel
theorem dX0_restOf_81 : decode cX0_restOf 81 = .ok (.iload 4, 2) := by decide +kernel
theorem dX0_restOf_83 : decode cX0_restOf 83 = .ok (.invokestatic 61, 3) := by decide +kernel
theorem dX0_restOf_86 : decode cX0_restOf 86 = .ok (.invokestatic 65, 3) := by decide +kernel
theorem dX0_restOf_89 : decode cX0_restOf 89 = .ok (.istore_n 2, 1) := by decide +kernel
theorem dX0_restOf_90 : decode cX0_restOf 90 = .ok (.iinc 3 1, 3) := by decide +kernel
theorem dX0_restOf_93 : decode cX0_restOf 93 = .ok (.goto (-64), 3) := by decide +kernel
theorem dX0_restOf_96 : decode cX0_restOf 96 = .ok (.iload_n 2, 1) := by decide +kernel
theorem dX0_restOf_97 : decode cX0_restOf 97 = .ok (.ireturn, 1) := by decide +kernel
theorem dX1_init_0 : decode cX1_init 0 = .ok (.aload_n 0, 1) := by decide +kernel
theorem dX1_init_1 : decode cX1_init 1 = .ok (.invokespecial 3, 3) := by decide +kernel
theorem dX1_init_4 : decode cX1_init 4 = .ok (.aload_n 0, 1) := by decide +kernel
theorem dX1_init_5 : decode cX1_init 5 = .ok (.iconst 1, 1) := by decide +kernel
theorem dX1_init_6 : decode cX1_init 6 = .ok (.putfield 9, 3) := by decide +kernel
theorem dX1_init_9 : decode cX1_init 9 = .ok (.aload_n 0, 1) := by decide +kernel
theorem dX1_init_10 : decode cX1_init 10 = .ok (.iconst 1, 1) := by decide +kernel
theorem dX1_init_11 : decode cX1_init 11 = .ok (.putfield 15, 3) := by decide +kernel
theorem dX1_init_14 : decode cX1_init 14 = .ok (.return_, 1) := by decide +kernel
theorem dX1_copyFrom_0 : decode cX1_copyFrom 0 = .ok (.aload_n 0, 1) := by decide +kernel
theorem dX1_copyFrom_1 : decode cX1_copyFrom 1 = .ok (.aload_n 1, 1) := by decide +kernel
theorem dX1_copyFrom_2 : decode cX1_copyFrom 2 = .ok (.getfield 9, 3) := by decide +kernel
theorem dX1_copyFrom_5 : decode cX1_copyFrom 5 = .ok (.putfield 9, 3) := by decide +kernel
theorem dX1_copyFrom_8 : decode cX1_copyFrom 8 = .ok (.aload_n 0, 1) := by decide +kernel
theorem dX1_copyFrom_9 : decode cX1_copyFrom 9 = .ok (.aload_n 1, 1) := by decide +kernel
theorem dX1_copyFrom_10 : decode cX1_copyFrom 10 = .ok (.getfield 15, 3) := by decide +kernel
theorem dX1_copyFrom_13 : decode cX1_copyFrom 13 = .ok (.putfield 15, 3) := by decide +kernel
theorem dX1_copyFrom_16 : decode cX1_copyFrom 16 = .ok (.aload_n 0, 1) := by decide +kernel
theorem dX1_copyFrom_17 : decode cX1_copyFrom 17 = .ok (.aload_n 1, 1) := by decide +kernel
theorem dX1_copyFrom_18 : decode cX1_copyFrom 18 = .ok (.getfield 18, 3) := by decide +kernel
theorem dX1_copyFrom_21 : decode cX1_copyFrom 21 = .ok (.putfield 18, 3) := by decide +kernel
theorem dX1_copyFrom_24 : decode cX1_copyFrom 24 = .ok (.aload_n 0, 1) := by decide +kernel
theorem dX1_copyFrom_25 : decode cX1_copyFrom 25 = .ok (.aload_n 1, 1) := by decide +kernel
theorem dX1_copyFrom_26 : decode cX1_copyFrom 26 = .ok (.getfield 21, 3) := by decide +kernel
theorem dX1_copyFrom_29 : decode cX1_copyFrom 29 = .ok (.putfield 21, 3) := by decide +kernel
theorem dX1_copyFrom_32 : decode cX1_copyFrom 32 = .ok (.return_, 1) := by decide +kernel
theorem dX1_isOpenAt_0 : decode cX1_isOpenAt 0 = .ok (.aload_n 0, 1) := by decide +kernel
theorem dX1_isOpenAt_1 : decode cX1_isOpenAt 1 = .ok (.getfield 15, 3) := by decide +kernel
theorem dX1_isOpenAt_4 : decode cX1_isOpenAt 4 = .ok (.i2l, 1) := by decide +kernel
theorem dX1_isOpenAt_5 : decode cX1_isOpenAt 5 = .ok (.aload_n 0, 1) := by decide +kernel
theorem dX1_isOpenAt_6 : decode cX1_isOpenAt 6 = .ok (.getfield 18, 3) := by decide +kernel
theorem dX1_isOpenAt_9 : decode cX1_isOpenAt 9 = .ok (.aload_n 0, 1) := by decide +kernel
theorem dX1_isOpenAt_10 : decode cX1_isOpenAt 10 = .ok (.getfield 21, 3) := by decide +kernel
theorem dX1_isOpenAt_13 : decode cX1_isOpenAt 13 = .ok (.iload_n 1, 1) := by decide +kernel
theorem dX1_isOpenAt_14 : decode cX1_isOpenAt 14 = .ok (.imul, 1) := by decide +kernel
theorem dX1_isOpenAt_15 : decode cX1_isOpenAt 15 = .ok (.iadd, 1) := by decide +kernel
theorem dX1_isOpenAt_16 : decode cX1_isOpenAt 16 = .ok (.ineg, 1) := by decide +kernel
theorem dX1_isOpenAt_17 : decode cX1_isOpenAt 17 = .ok (.aload_n 0, 1) := by decide +kernel
theorem dX1_isOpenAt_18 : decode cX1_isOpenAt 18 = .ok (.getfield 9, 3) := by decide +kernel
theorem dX1_isOpenAt_21 : decode cX1_isOpenAt 21 = .ok (.invokestatic 24, 3) := by decide +kernel
theorem dX1_isOpenAt_24 : decode cX1_isOpenAt 24 = .ok (.invokestatic 28, 3) := by decide +kernel
theorem dX1_isOpenAt_27 : decode cX1_isOpenAt 27 = .ok (.ireturn, 1) := by decide +kernel
theorem dX1_opensAt_0 : decode cX1_opensAt 0 = .ok (.aload_n 0, 1) := by decide +kernel
theorem dX1_opensAt_1 : decode cX1_opensAt 1 = .ok (.iload_n 1, 1) := by decide +kernel
theorem dX1_opensAt_2 : decode cX1_opensAt 2 = .ok (.invokevirtual 32, 3) := by decide +kernel
theorem dX1_opensAt_5 : decode cX1_opensAt 5 = .ok (.ifCond .eq 21, 3) := by decide +kernel
theorem dX1_opensAt_8 : decode cX1_opensAt 8 = .ok (.iload_n 1, 1) := by decide +kernel
theorem dX1_opensAt_9 : decode cX1_opensAt 9 = .ok (.ifCond .eq 13, 3) := by decide +kernel
theorem dX1_opensAt_12 : decode cX1_opensAt 12 = .ok (.aload_n 0, 1) := by decide +kernel
theorem dX1_opensAt_13 : decode cX1_opensAt 13 = .ok (.iload_n 1, 1) := by decide +kernel
theorem dX1_opensAt_14 : decode cX1_opensAt 14 = .ok (.iconst 1, 1) := by decide +kernel
theorem dX1_opensAt_15 : decode cX1_opensAt 15 = .ok (.isub, 1) := by decide +kernel
theorem dX1_opensAt_16 : decode cX1_opensAt 16 = .ok (.invokevirtual 32, 3) := by decide +kernel
theorem dX1_opensAt_19 : decode cX1_opensAt 19 = .ok (.ifCond .ne 7, 3) := by decide +kernel
theorem dX1_opensAt_22 : decode cX1_opensAt 22 = .ok (.iconst 1, 1) := by decide +kernel
theorem dX1_opensAt_23 : decode cX1_opensAt 23 = .ok (.goto 4, 3) := by decide +kernel
theorem dX1_opensAt_26 : decode cX1_opensAt 26 = .ok (.iconst 0, 1) := by decide +kernel
theorem dX1_opensAt_27 : decode cX1_opensAt 27 = .ok (.ireturn, 1) := by decide +kernel
theorem dX1_openings_0 : decode cX1_openings 0 = .ok (.iconst 0, 1) := by decide +kernel
theorem dX1_openings_1 : decode cX1_openings 1 = .ok (.istore_n 1, 1) := by decide +kernel
theorem dX1_openings_2 : decode cX1_openings 2 = .ok (.iconst 0, 1) := by decide +kernel
theorem dX1_openings_3 : decode cX1_openings 3 = .ok (.istore_n 2, 1) := by decide +kernel
theorem dX1_openings_4 : decode cX1_openings 4 = .ok (.iload_n 2, 1) := by decide +kernel
theorem dX1_openings_5 : decode cX1_openings 5 = .ok (.sipush 1000, 3) := by decide +kernel
theorem dX1_openings_8 : decode cX1_openings 8 = .ok (.if_icmp .gt 20, 3) := by decide +kernel
theorem dX1_openings_11 : decode cX1_openings 11 = .ok (.aload_n 0, 1) := by decide +kernel
theorem dX1_openings_12 : decode cX1_openings 12 = .ok (.iload_n 2, 1) := by decide +kernel
theorem dX1_openings_13 : decode cX1_openings 13 = .ok (.invokevirtual 36, 3) := by decide +kernel
theorem dX1_openings_16 : decode cX1_openings 16 = .ok (.ifCond .eq 6, 3) := by decide +kernel
theorem dX1_openings_19 : decode cX1_openings 19 = .ok (.iinc 1 1, 3) := by decide +kernel
theorem dX1_openings_22 : decode cX1_openings 22 = .ok (.iinc 2 1, 3) := by decide +kernel
theorem dX1_openings_25 : decode cX1_openings 25 = .ok (.goto (-21), 3) := by decide +kernel
theorem dX1_openings_28 : decode cX1_openings 28 = .ok (.iload_n 1, 1) := by decide +kernel
theorem dX1_openings_29 : decode cX1_openings 29 = .ok (.ireturn, 1) := by decide +kernel
theorem dX1_firstTickOf_0 : decode cX1_firstTickOf 0 = .ok (.iconst 0, 1) := by decide +kernel
theorem dX1_firstTickOf_1 : decode cX1_firstTickOf 1 = .ok (.istore_n 2, 1) := by decide +kernel
theorem dX1_firstTickOf_2 : decode cX1_firstTickOf 2 = .ok (.iconst 0, 1) := by decide +kernel
theorem dX1_firstTickOf_3 : decode cX1_firstTickOf 3 = .ok (.istore_n 3, 1) := by decide +kernel
theorem dX1_firstTickOf_4 : decode cX1_firstTickOf 4 = .ok (.iload_n 3, 1) := by decide +kernel
theorem dX1_firstTickOf_5 : decode cX1_firstTickOf 5 = .ok (.sipush 1000, 3) := by decide +kernel
theorem dX1_firstTickOf_8 : decode cX1_firstTickOf 8 = .ok (.if_icmp .gt 27, 3) := by decide +kernel
theorem dX1_firstTickOf_11 : decode cX1_firstTickOf 11 = .ok (.aload_n 0, 1) := by decide +kernel
theorem dX1_firstTickOf_12 : decode cX1_firstTickOf 12 = .ok (.iload_n 3, 1) := by decide +kernel
theorem dX1_firstTickOf_13 : decode cX1_firstTickOf 13 = .ok (.invokevirtual 36, 3) := by decide +kernel
theorem dX1_firstTickOf_16 : decode cX1_firstTickOf 16 = .ok (.ifCond .eq 13, 3) := by decide +kernel
theorem dX1_firstTickOf_19 : decode cX1_firstTickOf 19 = .ok (.iload_n 2, 1) := by decide +kernel
theorem dX1_firstTickOf_20 : decode cX1_firstTickOf 20 = .ok (.iload_n 1, 1) := by decide +kernel
theorem dX1_firstTickOf_21 : decode cX1_firstTickOf 21 = .ok (.if_icmp .ne 5, 3) := by decide +kernel
theorem dX1_firstTickOf_24 : decode cX1_firstTickOf 24 = .ok (.iload_n 3, 1) := by decide +kernel
theorem dX1_firstTickOf_25 : decode cX1_firstTickOf 25 = .ok (.ireturn, 1) := by decide +kernel
theorem dX1_firstTickOf_26 : decode cX1_firstTickOf 26 = .ok (.iinc 2 1, 3) := by decide +kernel
theorem dX1_firstTickOf_29 : decode cX1_firstTickOf 29 = .ok (.iinc 3 1, 3) := by decide +kernel
theorem dX1_firstTickOf_32 : decode cX1_firstTickOf 32 = .ok (.goto (-28), 3) := by decide +kernel
theorem dX1_firstTickOf_35 : decode cX1_firstTickOf 35 = .ok (.iconst (-1), 1) := by decide +kernel
theorem dX1_firstTickOf_36 : decode cX1_firstTickOf 36 = .ok (.ireturn, 1) := by decide +kernel
theorem dX1_ticksFrom_0 : decode cX1_ticksFrom 0 = .ok (.iload_n 1, 1) := by decide +kernel
theorem dX1_ticksFrom_1 : decode cX1_ticksFrom 1 = .ok (.istore_n 2, 1) := by decide +kernel
theorem dX1_ticksFrom_2 : decode cX1_ticksFrom 2 = .ok (.iload_n 2, 1) := by decide +kernel
theorem dX1_ticksFrom_3 : decode cX1_ticksFrom 3 = .ok (.sipush 1000, 3) := by decide +kernel
theorem dX1_ticksFrom_6 : decode cX1_ticksFrom 6 = .ok (.if_icmp .gt 17, 3) := by decide +kernel
theorem dX1_ticksFrom_9 : decode cX1_ticksFrom 9 = .ok (.aload_n 0, 1) := by decide +kernel
theorem dX1_ticksFrom_10 : decode cX1_ticksFrom 10 = .ok (.iload_n 2, 1) := by decide +kernel
theorem dX1_ticksFrom_11 : decode cX1_ticksFrom 11 = .ok (.invokevirtual 32, 3) := by decide +kernel
theorem dX1_ticksFrom_14 : decode cX1_ticksFrom 14 = .ok (.ifCond .eq 9, 3) := by decide +kernel
theorem dX1_ticksFrom_17 : decode cX1_ticksFrom 17 = .ok (.iinc 2 1, 3) := by decide +kernel
theorem dX1_ticksFrom_20 : decode cX1_ticksFrom 20 = .ok (.goto (-18), 3) := by decide +kernel
theorem dX1_ticksFrom_23 : decode cX1_ticksFrom 23 = .ok (.iload_n 2, 1) := by decide +kernel
theorem dX1_ticksFrom_24 : decode cX1_ticksFrom 24 = .ok (.iload_n 1, 1) := by decide +kernel
theorem dX1_ticksFrom_25 : decode cX1_ticksFrom 25 = .ok (.isub, 1) := by decide +kernel
theorem dX1_ticksFrom_26 : decode cX1_ticksFrom 26 = .ok (.ireturn, 1) := by decide +kernel
theorem dX2_init_0 : decode cX2_init 0 = .ok (.aload_n 0, 1) := by decide +kernel
theorem dX2_init_1 : decode cX2_init 1 = .ok (.invokespecial 3, 3) := by decide +kernel
theorem dX2_init_4 : decode cX2_init 4 = .ok (.aload_n 0, 1) := by decide +kernel
theorem dX2_init_5 : decode cX2_init 5 = .ok (.iconst 1, 1) := by decide +kernel
theorem dX2_init_6 : decode cX2_init 6 = .ok (.putfield 9, 3) := by decide +kernel
theorem dX2_init_9 : decode cX2_init 9 = .ok (.return_, 1) := by decide +kernel
theorem dX2_copyFrom_0 : decode cX2_copyFrom 0 = .ok (.aload_n 0, 1) := by decide +kernel
theorem dX2_copyFrom_1 : decode cX2_copyFrom 1 = .ok (.aload_n 1, 1) := by decide +kernel
theorem dX2_copyFrom_2 : decode cX2_copyFrom 2 = .ok (.getfield 15, 3) := by decide +kernel
theorem dX2_copyFrom_5 : decode cX2_copyFrom 5 = .ok (.putfield 15, 3) := by decide +kernel
theorem dX2_copyFrom_8 : decode cX2_copyFrom 8 = .ok (.aload_n 0, 1) := by decide +kernel
theorem dX2_copyFrom_9 : decode cX2_copyFrom 9 = .ok (.aload_n 1, 1) := by decide +kernel
theorem dX2_copyFrom_10 : decode cX2_copyFrom 10 = .ok (.getfield 9, 3) := by decide +kernel
theorem dX2_copyFrom_13 : decode cX2_copyFrom 13 = .ok (.putfield 9, 3) := by decide +kernel
theorem dX2_copyFrom_16 : decode cX2_copyFrom 16 = .ok (.return_, 1) := by decide +kernel
theorem dX2_number_0 : decode cX2_number 0 = .ok (.aload_n 0, 1) := by decide +kernel
theorem dX2_number_1 : decode cX2_number 1 = .ok (.getfield 9, 3) := by decide +kernel
theorem dX2_number_4 : decode cX2_number 4 = .ok (.ifCond .le 21, 3) := by decide +kernel
theorem dX2_number_7 : decode cX2_number 7 = .ok (.sipush 1000, 3) := by decide +kernel
theorem dX2_number_10 : decode cX2_number 10 = .ok (.aload_n 0, 1) := by decide +kernel
theorem dX2_number_11 : decode cX2_number 11 = .ok (.getfield 15, 3) := by decide +kernel
theorem dX2_number_14 : decode cX2_number 14 = .ok (.isub, 1) := by decide +kernel
theorem dX2_number_15 : decode cX2_number 15 = .ok (.aload_n 0, 1) := by decide +kernel
theorem dX2_number_16 : decode cX2_number 16 = .ok (.getfield 9, 3) := by decide +kernel
theorem dX2_number_19 : decode cX2_number 19 = .ok (.idiv, 1) := by decide +kernel
theorem dX2_number_20 : decode cX2_number 20 = .ok (.iconst 1, 1) := by decide +kernel
theorem dX2_number_21 : decode cX2_number 21 = .ok (.iadd, 1) := by decide +kernel
theorem dX2_number_22 : decode cX2_number 22 = .ok (.goto 4, 3) := by decide +kernel
theorem dX2_number_25 : decode cX2_number 25 = .ok (.iconst 0, 1) := by decide +kernel
theorem dX2_number_26 : decode cX2_number 26 = .ok (.ireturn, 1) := by decide +kernel
theorem dX2_tickOf_0 : decode cX2_tickOf 0 = .ok (.aload_n 0, 1) := by decide +kernel
theorem dX2_tickOf_1 : decode cX2_tickOf 1 = .ok (.getfield 15, 3) := by decide +kernel
theorem dX2_tickOf_4 : decode cX2_tickOf 4 = .ok (.iload_n 1, 1) := by decide +kernel
theorem dX2_tickOf_5 : decode cX2_tickOf 5 = .ok (.aload_n 0, 1) := by decide +kernel
theorem dX2_tickOf_6 : decode cX2_tickOf 6 = .ok (.getfield 9, 3) := by decide +kernel
theorem dX2_tickOf_9 : decode cX2_tickOf 9 = .ok (.imul, 1) := by decide +kernel
theorem dX2_tickOf_10 : decode cX2_tickOf 10 = .ok (.iadd, 1) := by decide +kernel
theorem dX2_tickOf_11 : decode cX2_tickOf 11 = .ok (.ireturn, 1) := by decide +kernel
theorem dX3_init_0 : decode cX3_init 0 = .ok (.aload_n 0, 1) := by decide +kernel
theorem dX3_init_1 : decode cX3_init 1 = .ok (.invokespecial 3, 3) := by decide +kernel
theorem dX3_init_4 : decode cX3_init 4 = .ok (.aload_n 0, 1) := by decide +kernel
theorem dX3_init_5 : decode cX3_init 5 = .ok (.bipush 8, 2) := by decide +kernel
theorem dX3_init_7 : decode cX3_init 7 = .ok (.anewarray 9, 3) := by decide +kernel
theorem dX3_init_10 : decode cX3_init 10 = .ok (.putfield 11, 3) := by decide +kernel
theorem dX3_init_13 : decode cX3_init 13 = .ok (.iconst 0, 1) := by decide +kernel
theorem dX3_init_14 : decode cX3_init 14 = .ok (.istore_n 1, 1) := by decide +kernel
theorem dX3_init_15 : decode cX3_init 15 = .ok (.iload_n 1, 1) := by decide +kernel
theorem dX3_init_16 : decode cX3_init 16 = .ok (.aload_n 0, 1) := by decide +kernel
theorem dX3_init_17 : decode cX3_init 17 = .ok (.getfield 11, 3) := by decide +kernel
theorem dX3_init_20 : decode cX3_init 20 = .ok (.arraylength, 1) := by decide +kernel
theorem dX3_init_21 : decode cX3_init 21 = .ok (.if_icmp .ge 22, 3) := by decide +kernel
theorem dX3_init_24 : decode cX3_init 24 = .ok (.aload_n 0, 1) := by decide +kernel
theorem dX3_init_25 : decode cX3_init 25 = .ok (.getfield 11, 3) := by decide +kernel
theorem dX3_init_28 : decode cX3_init 28 = .ok (.iload_n 1, 1) := by decide +kernel
theorem dX3_init_29 : decode cX3_init 29 = .ok (.new 9, 3) := by decide +kernel
theorem dX3_init_32 : decode cX3_init 32 = .ok (.dup, 1) := by decide +kernel
theorem dX3_init_33 : decode cX3_init 33 = .ok (.invokespecial 17, 3) := by decide +kernel
theorem dX3_init_36 : decode cX3_init 36 = .ok (.aastore, 1) := by decide +kernel
theorem dX3_init_37 : decode cX3_init 37 = .ok (.iinc 1 1, 3) := by decide +kernel
theorem dX3_init_40 : decode cX3_init 40 = .ok (.goto (-25), 3) := by decide +kernel
theorem dX3_init_43 : decode cX3_init 43 = .ok (.return_, 1) := by decide +kernel
theorem dX3_remember_0 : decode cX3_remember 0 = .ok (.aload_n 0, 1) := by decide +kernel
theorem dX3_remember_1 : decode cX3_remember 1 = .ok (.aload_n 0, 1) := by decide +kernel
theorem dX3_remember_2 : decode cX3_remember 2 = .ok (.getfield 18, 3) := by decide +kernel
theorem dX3_remember_5 : decode cX3_remember 5 = .ok (.invokevirtual 22, 3) := by decide +kernel
theorem dX3_remember_8 : decode cX3_remember 8 = .ok (.astore_n 2, 1) := by decide +kernel
theorem dX3_remember_9 : decode cX3_remember 9 = .ok (.aload_n 2, 1) := by decide +kernel
theorem dX3_remember_10 : decode cX3_remember 10 = .ok (.ifnonnull 4, 3) := by decide +kernel
theorem dX3_remember_13 : decode cX3_remember 13 = .ok (.return_, 1) := by decide +kernel
theorem dX3_remember_14 : decode cX3_remember 14 = .ok (.aload_n 2, 1) := by decide +kernel
theorem dX3_remember_15 : decode cX3_remember 15 = .ok (.aload_n 1, 1) := by decide +kernel
theorem dX3_remember_16 : decode cX3_remember 16 = .ok (.invokevirtual 26, 3) := by decide +kernel
theorem dX3_remember_19 : decode cX3_remember 19 = .ok (.aload_n 0, 1) := by decide +kernel
theorem dX3_remember_20 : decode cX3_remember 20 = .ok (.aload_n 0, 1) := by decide +kernel
theorem dX3_remember_21 : decode cX3_remember 21 = .ok (.getfield 18, 3) := by decide +kernel
theorem dX3_remember_24 : decode cX3_remember 24 = .ok (.iconst 1, 1) := by decide +kernel
theorem dX3_remember_25 : decode cX3_remember 25 = .ok (.iadd, 1) := by decide +kernel
theorem dX3_remember_26 : decode cX3_remember 26 = .ok (.bipush 8, 2) := by decide +kernel
theorem dX3_remember_28 : decode cX3_remember 28 = .ok (.invokestatic 30, 3) := by decide +kernel
theorem dX3_remember_31 : decode cX3_remember 31 = .ok (.putfield 18, 3) := by decide +kernel
theorem dX3_remember_34 : decode cX3_remember 34 = .ok (.aload_n 0, 1) := by decide +kernel
theorem dX3_remember_35 : decode cX3_remember 35 = .ok (.getfield 34, 3) := by decide +kernel
theorem dX3_remember_38 : decode cX3_remember 38 = .ok (.bipush 8, 2) := by decide +kernel
theorem dX3_remember_40 : decode cX3_remember 40 = .ok (.if_icmp .ge 13, 3) := by decide +kernel
theorem dX3_remember_43 : decode cX3_remember 43 = .ok (.aload_n 0, 1) := by decide +kernel
theorem dX3_remember_44 : decode cX3_remember 44 = .ok (.dup, 1) := by decide +kernel
theorem dX3_remember_45 : decode cX3_remember 45 = .ok (.getfield 34, 3) := by decide +kernel
theorem dX3_remember_48 : decode cX3_remember 48 = .ok (.iconst 1, 1) := by decide +kernel
theorem dX3_remember_49 : decode cX3_remember 49 = .ok (.iadd, 1) := by decide +kernel
theorem dX3_remember_50 : decode cX3_remember 50 = .ok (.putfield 34, 3) := by decide +kernel
theorem dX3_remember_53 : decode cX3_remember 53 = .ok (.return_, 1) := by decide +kernel
theorem dX3_restore_0 : decode cX3_restore 0 = .ok (.aload_n 0, 1) := by decide +kernel
theorem dX3_restore_1 : decode cX3_restore 1 = .ok (.getfield 18, 3) := by decide +kernel
theorem dX3_restore_4 : decode cX3_restore 4 = .ok (.iconst 1, 1) := by decide +kernel
theorem dX3_restore_5 : decode cX3_restore 5 = .ok (.isub, 1) := by decide +kernel
theorem dX3_restore_6 : decode cX3_restore 6 = .ok (.bipush 8, 2) := by decide +kernel
theorem dX3_restore_8 : decode cX3_restore 8 = .ok (.invokestatic 30, 3) := by decide +kernel
theorem dX3_restore_11 : decode cX3_restore 11 = .ok (.istore_n 2, 1) := by decide +kernel
theorem dX3_restore_12 : decode cX3_restore 12 = .ok (.aload_n 0, 1) := by decide +kernel
theorem dX3_restore_13 : decode cX3_restore 13 = .ok (.iload_n 2, 1) := by decide +kernel
theorem dX3_restore_14 : decode cX3_restore 14 = .ok (.invokevirtual 22, 3) := by decide +kernel
theorem dX3_restore_17 : decode cX3_restore 17 = .ok (.astore_n 3, 1) := by decide +kernel
theorem dX3_restore_18 : decode cX3_restore 18 = .ok (.aload_n 3, 1) := by decide +kernel
theorem dX3_restore_19 : decode cX3_restore 19 = .ok (.ifnull 10, 3) := by decide +kernel
theorem dX3_restore_22 : decode cX3_restore 22 = .ok (.aload_n 0, 1) := by decide +kernel
theorem dX3_restore_23 : decode cX3_restore 23 = .ok (.getfield 34, 3) := by decide +kernel
theorem dX3_restore_26 : decode cX3_restore 26 = .ok (.ifCond .ne 4, 3) := by decide +kernel
theorem dX3_restore_29 : decode cX3_restore 29 = .ok (.return_, 1) := by decide +kernel
theorem dX3_restore_30 : decode cX3_restore 30 = .ok (.aload_n 1, 1) := by decide +kernel
theorem dX3_restore_31 : decode cX3_restore 31 = .ok (.aload_n 3, 1) := by decide +kernel
theorem dX3_restore_32 : decode cX3_restore 32 = .ok (.invokevirtual 26, 3) := by decide +kernel
theorem dX3_restore_35 : decode cX3_restore 35 = .ok (.aload_n 0, 1) := by decide +kernel
theorem dX3_restore_36 : decode cX3_restore 36 = .ok (.iload_n 2, 1) := by decide +kernel
theorem dX3_restore_37 : decode cX3_restore 37 = .ok (.putfield 18, 3) := by decide +kernel
theorem dX3_restore_40 : decode cX3_restore 40 = .ok (.aload_n 0, 1) := by decide +kernel
theorem dX3_restore_41 : decode cX3_restore 41 = .ok (.dup, 1) := by decide +kernel
theorem dX3_restore_42 : decode cX3_restore 42 = .ok (.getfield 34, 3) := by decide +kernel
theorem dX3_restore_45 : decode cX3_restore 45 = .ok (.iconst 1, 1) := by decide +kernel
theorem dX3_restore_46 : decode cX3_restore 46 = .ok (.isub, 1) := by decide +kernel
theorem dX3_restore_47 : decode cX3_restore 47 = .ok (.putfield 34, 3) := by decide +kernel
theorem dX3_restore_50 : decode cX3_restore 50 = .ok (.return_, 1) := by decide +kernel
theorem dX3_slotAt_0 : decode cX3_slotAt 0 = .ok (.iload_n 1, 1) := by decide +kernel
theorem dX3_slotAt_1 : decode cX3_slotAt 1 = .ok (.ifCond .lt 21, 3) := by decide +kernel
theorem dX3_slotAt_4 : decode cX3_slotAt 4 = .ok (.iload_n 1, 1) := by decide +kernel
theorem dX3_slotAt_5 : decode cX3_slotAt 5 = .ok (.aload_n 0, 1) := by decide +kernel
theorem dX3_slotAt_6 : decode cX3_slotAt 6 = .ok (.getfield 11, 3) := by decide +kernel
theorem dX3_slotAt_9 : decode cX3_slotAt 9 = .ok (.arraylength, 1) := by decide +kernel
theorem dX3_slotAt_10 : decode cX3_slotAt 10 = .ok (.if_icmp .ge 12, 3) := by decide +kernel
theorem dX3_slotAt_13 : decode cX3_slotAt 13 = .ok (.aload_n 0, 1) := by decide +kernel
theorem dX3_slotAt_14 : decode cX3_slotAt 14 = .ok (.getfield 11, 3) := by decide +kernel
theorem dX3_slotAt_17 : decode cX3_slotAt 17 = .ok (.iload_n 1, 1) := by decide +kernel
theorem dX3_slotAt_18 : decode cX3_slotAt 18 = .ok (.aaload, 1) := by decide +kernel
theorem dX3_slotAt_19 : decode cX3_slotAt 19 = .ok (.goto 4, 3) := by decide +kernel
theorem dX3_slotAt_22 : decode cX3_slotAt 22 = .ok (.aconst_null, 1) := by decide +kernel
theorem dX3_slotAt_23 : decode cX3_slotAt 23 = .ok (.areturn, 1) := by decide +kernel
theorem dX4_init_0 : decode cX4_init 0 = .ok (.aload_n 0, 1) := by decide +kernel
theorem dX4_init_1 : decode cX4_init 1 = .ok (.invokespecial 3, 3) := by decide +kernel
theorem dX4_init_4 : decode cX4_init 4 = .ok (.aload_n 0, 1) := by decide +kernel
theorem dX4_init_5 : decode cX4_init 5 = .ok (.bipush 8, 2) := by decide +kernel
theorem dX4_init_7 : decode cX4_init 7 = .ok (.newarray .int, 2) := by decide +kernel
theorem dX4_init_9 : decode cX4_init 9 = .ok (.putfield 9, 3) := by decide +kernel
theorem dX4_init_12 : decode cX4_init 12 = .ok (.aload_n 0, 1) := by decide +kernel
theorem dX4_init_13 : decode cX4_init 13 = .ok (.bipush 8, 2) := by decide +kernel
theorem dX4_init_15 : decode cX4_init 15 = .ok (.newarray .int, 2) := by decide +kernel
theorem dX4_init_17 : decode cX4_init 17 = .ok (.putfield 15, 3) := by decide +kernel
theorem dX4_init_20 : decode cX4_init 20 = .ok (.aload_n 0, 1) := by decide +kernel
theorem dX4_init_21 : decode cX4_init 21 = .ok (.bipush 100, 2) := by decide +kernel
theorem dX4_init_23 : decode cX4_init 23 = .ok (.putfield 18, 3) := by decide +kernel
theorem dX4_init_26 : decode cX4_init 26 = .ok (.return_, 1) := by decide +kernel
theorem dX4_copyFrom_0 : decode cX4_copyFrom 0 = .ok (.aload_n 1, 1) := by decide +kernel
theorem dX4_copyFrom_1 : decode cX4_copyFrom 1 = .ok (.getfield 9, 3) := by decide +kernel
theorem dX4_copyFrom_4 : decode cX4_copyFrom 4 = .ok (.aload_n 0, 1) := by decide +kernel
theorem dX4_copyFrom_5 : decode cX4_copyFrom 5 = .ok (.getfield 9, 3) := by decide +kernel
theorem dX4_copyFrom_8 : decode cX4_copyFrom 8 = .ok (.invokestatic 22, 3) := by decide +kernel
theorem dX4_copyFrom_11 : decode cX4_copyFrom 11 = .ok (.aload_n 1, 1) := by decide +kernel
theorem dX4_copyFrom_12 : decode cX4_copyFrom 12 = .ok (.getfield 15, 3) := by decide +kernel
theorem dX4_copyFrom_15 : decode cX4_copyFrom 15 = .ok (.aload_n 0, 1) := by decide +kernel
theorem dX4_copyFrom_16 : decode cX4_copyFrom 16 = .ok (.getfield 15, 3) := by decide +kernel
theorem dX4_copyFrom_19 : decode cX4_copyFrom 19 = .ok (.invokestatic 22, 3) := by decide +kernel
theorem dX4_copyFrom_22 : decode cX4_copyFrom 22 = .ok (.aload_n 0, 1) := by decide +kernel
theorem dX4_copyFrom_23 : decode cX4_copyFrom 23 = .ok (.aload_n 1, 1) := by decide +kernel
theorem dX4_copyFrom_24 : decode cX4_copyFrom 24 = .ok (.getfield 26, 3) := by decide +kernel
theorem dX4_copyFrom_27 : decode cX4_copyFrom 27 = .ok (.putfield 26, 3) := by decide +kernel
theorem dX4_copyFrom_30 : decode cX4_copyFrom 30 = .ok (.aload_n 0, 1) := by decide +kernel
theorem dX4_copyFrom_31 : decode cX4_copyFrom 31 = .ok (.aload_n 1, 1) := by decide +kernel
theorem dX4_copyFrom_32 : decode cX4_copyFrom 32 = .ok (.getfield 18, 3) := by decide +kernel
theorem dX4_copyFrom_35 : decode cX4_copyFrom 35 = .ok (.putfield 18, 3) := by decide +kernel
theorem dX4_copyFrom_38 : decode cX4_copyFrom 38 = .ok (.return_, 1) := by decide +kernel
theorem dX4_add_0 : decode cX4_add 0 = .ok (.aload_n 0, 1) := by decide +kernel
theorem dX4_add_1 : decode cX4_add 1 = .ok (.getfield 9, 3) := by decide +kernel
theorem dX4_add_4 : decode cX4_add 4 = .ok (.aload_n 0, 1) := by decide +kernel
theorem dX4_add_5 : decode cX4_add 5 = .ok (.getfield 26, 3) := by decide +kernel
theorem dX4_add_8 : decode cX4_add 8 = .ok (.iload_n 1, 1) := by decide +kernel
theorem dX4_add_9 : decode cX4_add 9 = .ok (.invokestatic 29, 3) := by decide +kernel
theorem dX4_add_12 : decode cX4_add 12 = .ok (.aload_n 0, 1) := by decide +kernel
theorem dX4_add_13 : decode cX4_add 13 = .ok (.getfield 15, 3) := by decide +kernel
theorem dX4_add_16 : decode cX4_add 16 = .ok (.aload_n 0, 1) := by decide +kernel
theorem dX4_add_17 : decode cX4_add 17 = .ok (.getfield 26, 3) := by decide +kernel
theorem dX4_add_20 : decode cX4_add 20 = .ok (.iload_n 2, 1) := by decide +kernel
theorem dX4_add_21 : decode cX4_add 21 = .ok (.invokestatic 29, 3) := by decide +kernel
theorem dX4_add_24 : decode cX4_add 24 = .ok (.aload_n 0, 1) := by decide +kernel
theorem dX4_add_25 : decode cX4_add 25 = .ok (.dup, 1) := by decide +kernel
theorem dX4_add_26 : decode cX4_add 26 = .ok (.getfield 26, 3) := by decide +kernel
theorem dX4_add_29 : decode cX4_add 29 = .ok (.iconst 1, 1) := by decide +kernel
theorem dX4_add_30 : decode cX4_add 30 = .ok (.iadd, 1) := by decide +kernel
theorem dX4_add_31 : decode cX4_add 31 = .ok (.putfield 26, 3) := by decide +kernel
theorem dX4_add_34 : decode cX4_add 34 = .ok (.return_, 1) := by decide +kernel
theorem dX4_remove_0 : decode cX4_remove 0 = .ok (.iload_n 1, 1) := by decide +kernel
theorem dX4_remove_1 : decode cX4_remove 1 = .ok (.istore_n 2, 1) := by decide +kernel
theorem dX4_remove_2 : decode cX4_remove 2 = .ok (.iload_n 2, 1) := by decide +kernel
theorem dX4_remove_3 : decode cX4_remove 3 = .ok (.iconst 1, 1) := by decide +kernel
theorem dX4_remove_4 : decode cX4_remove 4 = .ok (.iadd, 1) := by decide +kernel
theorem dX4_remove_5 : decode cX4_remove 5 = .ok (.aload_n 0, 1) := by decide +kernel
theorem dX4_remove_6 : decode cX4_remove 6 = .ok (.getfield 26, 3) := by decide +kernel
theorem dX4_remove_9 : decode cX4_remove 9 = .ok (.if_icmp .ge 45, 3) := by decide +kernel
theorem dX4_remove_12 : decode cX4_remove 12 = .ok (.aload_n 0, 1) := by decide +kernel
theorem dX4_remove_13 : decode cX4_remove 13 = .ok (.getfield 9, 3) := by decide +kernel
theorem dX4_remove_16 : decode cX4_remove 16 = .ok (.iload_n 2, 1) := by decide +kernel
theorem dX4_remove_17 : decode cX4_remove 17 = .ok (.aload_n 0, 1) := by decide +kernel
theorem dX4_remove_18 : decode cX4_remove 18 = .ok (.getfield 9, 3) := by decide +kernel
theorem dX4_remove_21 : decode cX4_remove 21 = .ok (.iload_n 2, 1) := by decide +kernel
theorem dX4_remove_22 : decode cX4_remove 22 = .ok (.iconst 1, 1) := by decide +kernel
theorem dX4_remove_23 : decode cX4_remove 23 = .ok (.iadd, 1) := by decide +kernel
theorem dX4_remove_24 : decode cX4_remove 24 = .ok (.invokestatic 33, 3) := by decide +kernel
theorem dX4_remove_27 : decode cX4_remove 27 = .ok (.invokestatic 29, 3) := by decide +kernel
theorem dX4_remove_30 : decode cX4_remove 30 = .ok (.aload_n 0, 1) := by decide +kernel
theorem dX4_remove_31 : decode cX4_remove 31 = .ok (.getfield 15, 3) := by decide +kernel
theorem dX4_remove_34 : decode cX4_remove 34 = .ok (.iload_n 2, 1) := by decide +kernel
theorem dX4_remove_35 : decode cX4_remove 35 = .ok (.aload_n 0, 1) := by decide +kernel
theorem dX4_remove_36 : decode cX4_remove 36 = .ok (.getfield 15, 3) := by decide +kernel
theorem dX4_remove_39 : decode cX4_remove 39 = .ok (.iload_n 2, 1) := by decide +kernel
theorem dX4_remove_40 : decode cX4_remove 40 = .ok (.iconst 1, 1) := by decide +kernel
theorem dX4_remove_41 : decode cX4_remove 41 = .ok (.iadd, 1) := by decide +kernel
theorem dX4_remove_42 : decode cX4_remove 42 = .ok (.invokestatic 33, 3) := by decide +kernel
theorem dX4_remove_45 : decode cX4_remove 45 = .ok (.invokestatic 29, 3) := by decide +kernel
theorem dX4_remove_48 : decode cX4_remove 48 = .ok (.iinc 2 1, 3) := by decide +kernel
theorem dX4_remove_51 : decode cX4_remove 51 = .ok (.goto (-49), 3) := by decide +kernel
theorem dX4_remove_54 : decode cX4_remove 54 = .ok (.aload_n 0, 1) := by decide +kernel
theorem dX4_remove_55 : decode cX4_remove 55 = .ok (.dup, 1) := by decide +kernel
theorem dX4_remove_56 : decode cX4_remove 56 = .ok (.getfield 26, 3) := by decide +kernel
theorem dX4_remove_59 : decode cX4_remove 59 = .ok (.iconst 1, 1) := by decide +kernel
theorem dX4_remove_60 : decode cX4_remove 60 = .ok (.isub, 1) := by decide +kernel
theorem dX4_remove_61 : decode cX4_remove 61 = .ok (.putfield 26, 3) := by decide +kernel
theorem dX4_remove_64 : decode cX4_remove 64 = .ok (.return_, 1) := by decide +kernel
theorem dX4_allFit_0 : decode cX4_allFit 0 = .ok (.iconst 0, 1) := by decide +kernel
theorem dX4_allFit_1 : decode cX4_allFit 1 = .ok (.istore 4, 2) := by decide +kernel
theorem dX4_allFit_3 : decode cX4_allFit 3 = .ok (.iload 4, 2) := by decide +kernel
theorem dX4_allFit_5 : decode cX4_allFit 5 = .ok (.aload_n 0, 1) := by decide +kernel
theorem dX4_allFit_6 : decode cX4_allFit 6 = .ok (.getfield 26, 3) := by decide +kernel
theorem dX4_allFit_9 : decode cX4_allFit 9 = .ok (.if_icmp .ge 45, 3) := by decide +kernel
theorem dX4_allFit_12 : decode cX4_allFit 12 = .ok (.iload 4, 2) := by decide +kernel
theorem dX4_allFit_14 : decode cX4_allFit 14 = .ok (.iload_n 3, 1) := by decide +kernel
theorem dX4_allFit_15 : decode cX4_allFit 15 = .ok (.if_icmp .eq 33, 3) := by decide +kernel
theorem dX4_allFit_18 : decode cX4_allFit 18 = .ok (.iload_n 1, 1) := by decide +kernel
theorem dX4_allFit_19 : decode cX4_allFit 19 = .ok (.aload_n 0, 1) := by decide +kernel
theorem dX4_allFit_20 : decode cX4_allFit 20 = .ok (.getfield 9, 3) := by decide +kernel
theorem dX4_allFit_23 : decode cX4_allFit 23 = .ok (.iload 4, 2) := by decide +kernel
theorem dX4_allFit_25 : decode cX4_allFit 25 = .ok (.invokestatic 33, 3) := by decide +kernel
theorem dX4_allFit_28 : decode cX4_allFit 28 = .ok (.imul, 1) := by decide +kernel
theorem dX4_allFit_29 : decode cX4_allFit 29 = .ok (.aload_n 0, 1) := by decide +kernel
theorem dX4_allFit_30 : decode cX4_allFit 30 = .ok (.getfield 15, 3) := by decide +kernel
theorem dX4_allFit_33 : decode cX4_allFit 33 = .ok (.iload 4, 2) := by decide +kernel
theorem dX4_allFit_35 : decode cX4_allFit 35 = .ok (.invokestatic 33, 3) := by decide +kernel
theorem dX4_allFit_38 : decode cX4_allFit 38 = .ok (.isub, 1) := by decide +kernel
theorem dX4_allFit_39 : decode cX4_allFit 39 = .ok (.iload_n 2, 1) := by decide +kernel
theorem dX4_allFit_40 : decode cX4_allFit 40 = .ok (.invokestatic 37, 3) := by decide +kernel
theorem dX4_allFit_43 : decode cX4_allFit 43 = .ok (.ifCond .eq 5, 3) := by decide +kernel
theorem dX4_allFit_46 : decode cX4_allFit 46 = .ok (.iconst 0, 1) := by decide +kernel
theorem dX4_allFit_47 : decode cX4_allFit 47 = .ok (.ireturn, 1) := by decide +kernel
theorem dX4_allFit_48 : decode cX4_allFit 48 = .ok (.iinc 4 1, 3) := by decide +kernel
theorem dX4_allFit_51 : decode cX4_allFit 51 = .ok (.goto (-48), 3) := by decide +kernel
theorem dX4_allFit_54 : decode cX4_allFit 54 = .ok (.iconst 1, 1) := by decide +kernel
theorem dX4_allFit_55 : decode cX4_allFit 55 = .ok (.ireturn, 1) := by decide +kernel
theorem dX5_init_0 : decode cX5_init 0 = .ok (.aload_n 0, 1) := by decide +kernel
theorem dX5_init_1 : decode cX5_init 1 = .ok (.invokespecial 1, 3) := by decide +kernel
theorem dX5_init_4 : decode cX5_init 4 = .ok (.aload_n 0, 1) := by decide +kernel
theorem dX5_init_5 : decode cX5_init 5 = .ok (.new 7, 3) := by decide +kernel
theorem dX5_init_8 : decode cX5_init 8 = .ok (.dup, 1) := by decide +kernel
theorem dX5_init_9 : decode cX5_init 9 = .ok (.invokespecial 9, 3) := by decide +kernel
theorem dX5_init_12 : decode cX5_init 12 = .ok (.putfield 10, 3) := by decide +kernel
theorem dX5_init_15 : decode cX5_init 15 = .ok (.aload_n 0, 1) := by decide +kernel
theorem dX5_init_16 : decode cX5_init 16 = .ok (.new 16, 3) := by decide +kernel
theorem dX5_init_19 : decode cX5_init 19 = .ok (.dup, 1) := by decide +kernel
theorem dX5_init_20 : decode cX5_init 20 = .ok (.invokespecial 18, 3) := by decide +kernel
theorem dX5_init_23 : decode cX5_init 23 = .ok (.putfield 19, 3) := by decide +kernel
theorem dX5_init_26 : decode cX5_init 26 = .ok (.aload_n 0, 1) := by decide +kernel
theorem dX5_init_27 : decode cX5_init 27 = .ok (.new 23, 3) := by decide +kernel
theorem dX5_init_30 : decode cX5_init 30 = .ok (.dup, 1) := by decide +kernel
theorem dX5_init_31 : decode cX5_init 31 = .ok (.invokespecial 25, 3) := by decide +kernel
theorem dX5_init_34 : decode cX5_init 34 = .ok (.putfield 26, 3) := by decide +kernel
theorem dX5_init_37 : decode cX5_init 37 = .ok (.aload_n 0, 1) := by decide +kernel
theorem dX5_init_38 : decode cX5_init 38 = .ok (.new 30, 3) := by decide +kernel
theorem dX5_init_41 : decode cX5_init 41 = .ok (.dup, 1) := by decide +kernel
theorem dX5_init_42 : decode cX5_init 42 = .ok (.invokespecial 32, 3) := by decide +kernel
theorem dX5_init_45 : decode cX5_init 45 = .ok (.putfield 33, 3) := by decide +kernel
theorem dX5_init_48 : decode cX5_init 48 = .ok (.return_, 1) := by decide +kernel
theorem dX5_copyFrom_0 : decode cX5_copyFrom 0 = .ok (.aload_n 0, 1) := by decide +kernel
theorem dX5_copyFrom_1 : decode cX5_copyFrom 1 = .ok (.getfield 10, 3) := by decide +kernel
theorem dX5_copyFrom_4 : decode cX5_copyFrom 4 = .ok (.aload_n 1, 1) := by decide +kernel
theorem dX5_copyFrom_5 : decode cX5_copyFrom 5 = .ok (.getfield 10, 3) := by decide +kernel
theorem dX5_copyFrom_8 : decode cX5_copyFrom 8 = .ok (.invokevirtual 37, 3) := by decide +kernel
theorem dX5_copyFrom_11 : decode cX5_copyFrom 11 = .ok (.aload_n 0, 1) := by decide +kernel
theorem dX5_copyFrom_12 : decode cX5_copyFrom 12 = .ok (.getfield 19, 3) := by decide +kernel
theorem dX5_copyFrom_15 : decode cX5_copyFrom 15 = .ok (.aload_n 1, 1) := by decide +kernel
theorem dX5_copyFrom_16 : decode cX5_copyFrom 16 = .ok (.getfield 19, 3) := by decide +kernel
theorem dX5_copyFrom_19 : decode cX5_copyFrom 19 = .ok (.invokevirtual 41, 3) := by decide +kernel
theorem dX5_copyFrom_22 : decode cX5_copyFrom 22 = .ok (.aload_n 0, 1) := by decide +kernel
theorem dX5_copyFrom_23 : decode cX5_copyFrom 23 = .ok (.getfield 26, 3) := by decide +kernel
theorem dX5_copyFrom_26 : decode cX5_copyFrom 26 = .ok (.aload_n 1, 1) := by decide +kernel
theorem dX5_copyFrom_27 : decode cX5_copyFrom 27 = .ok (.getfield 26, 3) := by decide +kernel
theorem dX5_copyFrom_30 : decode cX5_copyFrom 30 = .ok (.invokevirtual 44, 3) := by decide +kernel
theorem dX5_copyFrom_33 : decode cX5_copyFrom 33 = .ok (.aload_n 0, 1) := by decide +kernel
theorem dX5_copyFrom_34 : decode cX5_copyFrom 34 = .ok (.getfield 33, 3) := by decide +kernel
theorem dX5_copyFrom_37 : decode cX5_copyFrom 37 = .ok (.aload_n 1, 1) := by decide +kernel
theorem dX5_copyFrom_38 : decode cX5_copyFrom 38 = .ok (.getfield 33, 3) := by decide +kernel
theorem dX5_copyFrom_41 : decode cX5_copyFrom 41 = .ok (.invokevirtual 47, 3) := by decide +kernel
theorem dX5_copyFrom_44 : decode cX5_copyFrom 44 = .ok (.return_, 1) := by decide +kernel
theorem dX5_earliestAlike_0 : decode cX5_earliestAlike 0 = .ok (.aload_n 0, 1) := by decide +kernel
theorem dX5_earliestAlike_1 : decode cX5_earliestAlike 1 = .ok (.getfield 10, 3) := by decide +kernel
theorem dX5_earliestAlike_4 : decode cX5_earliestAlike 4 = .ok (.invokevirtual 50, 3) := by decide +kernel
theorem dX5_earliestAlike_7 : decode cX5_earliestAlike 7 = .ok (.istore_n 2, 1) := by decide +kernel
theorem dX5_earliestAlike_8 : decode cX5_earliestAlike 8 = .ok (.aload_n 0, 1) := by decide +kernel
theorem dX5_earliestAlike_9 : decode cX5_earliestAlike 9 = .ok (.getfield 10, 3) := by decide +kernel
theorem dX5_earliestAlike_12 : decode cX5_earliestAlike 12 = .ok (.aload_n 0, 1) := by decide +kernel
theorem dX5_earliestAlike_13 : decode cX5_earliestAlike 13 = .ok (.getfield 19, 3) := by decide +kernel
theorem dX5_earliestAlike_16 : decode cX5_earliestAlike 16 = .ok (.iload_n 1, 1) := by decide +kernel
theorem dX5_earliestAlike_17 : decode cX5_earliestAlike 17 = .ok (.invokevirtual 54, 3) := by decide +kernel
theorem dX5_earliestAlike_20 : decode cX5_earliestAlike 20 = .ok (.invokevirtual 58, 3) := by decide +kernel
theorem dX5_earliestAlike_23 : decode cX5_earliestAlike 23 = .ok (.iload_n 2, 1) := by decide +kernel
theorem dX5_earliestAlike_24 : decode cX5_earliestAlike 24 = .ok (.invokestatic 61, 3) := by decide +kernel
theorem dX5_earliestAlike_27 : decode cX5_earliestAlike 27 = .ok (.istore_n 3, 1) := by decide +kernel
theorem dX5_earliestAlike_28 : decode cX5_earliestAlike 28 = .ok (.iconst 0, 1) := by decide +kernel
theorem dX5_earliestAlike_29 : decode cX5_earliestAlike 29 = .ok (.istore 4, 2) := by decide +kernel
theorem dX5_earliestAlike_31 : decode cX5_earliestAlike 31 = .ok (.iload 4, 2) := by decide +kernel
theorem dX5_earliestAlike_33 : decode cX5_earliestAlike 33 = .ok (.iload_n 1, 1) := by decide +kernel
theorem dX5_earliestAlike_34 : decode cX5_earliestAlike 34 = .ok (.if_icmp .ge 36, 3) := by decide +kernel
theorem dX5_earliestAlike_37 : decode cX5_earliestAlike 37 = .ok (.aload_n 0, 1) := by decide +kernel
theorem dX5_earliestAlike_38 : decode cX5_earliestAlike 38 = .ok (.getfield 10, 3) := by decide +kernel
theorem dX5_earliestAlike_41 : decode cX5_earliestAlike 41 = .ok (.aload_n 0, 1) := by decide +kernel
theorem dX5_earliestAlike_42 : decode cX5_earliestAlike 42 = .ok (.getfield 19, 3) := by decide +kernel
theorem dX5_earliestAlike_45 : decode cX5_earliestAlike 45 = .ok (.iload 4, 2) := by decide +kernel
theorem dX5_earliestAlike_47 : decode cX5_earliestAlike 47 = .ok (.invokevirtual 54, 3) := by decide +kernel
theorem dX5_earliestAlike_50 : decode cX5_earliestAlike 50 = .ok (.invokevirtual 58, 3) := by decide +kernel
theorem dX5_earliestAlike_53 : decode cX5_earliestAlike 53 = .ok (.iload_n 2, 1) := by decide +kernel
theorem dX5_earliestAlike_54 : decode cX5_earliestAlike 54 = .ok (.invokestatic 61, 3) := by decide +kernel
theorem dX5_earliestAlike_57 : decode cX5_earliestAlike 57 = .ok (.iload_n 3, 1) := by decide +kernel
theorem dX5_earliestAlike_58 : decode cX5_earliestAlike 58 = .ok (.if_icmp .ne 6, 3) := by decide +kernel
theorem dX5_earliestAlike_61 : decode cX5_earliestAlike 61 = .ok (.iload 4, 2) := by decide +kernel
theorem dX5_earliestAlike_63 : decode cX5_earliestAlike 63 = .ok (.ireturn, 1) := by decide +kernel
theorem dX5_earliestAlike_64 : decode cX5_earliestAlike 64 = .ok (.iinc 4 1, 3) := by decide +kernel
theorem dX5_earliestAlike_67 : decode cX5_earliestAlike 67 = .ok (.goto (-36), 3) := by decide +kernel
theorem dX5_earliestAlike_70 : decode cX5_earliestAlike 70 = .ok (.iload_n 1, 1) := by decide +kernel
theorem dX5_earliestAlike_71 : decode cX5_earliestAlike 71 = .ok (.ireturn, 1) := by decide +kernel
theorem dX5_countSeeming_0 : decode cX5_countSeeming 0 = .ok (.aload_n 0, 1) := by decide +kernel
theorem dX5_countSeeming_1 : decode cX5_countSeeming 1 = .ok (.getfield 10, 3) := by decide +kernel
theorem dX5_countSeeming_4 : decode cX5_countSeeming 4 = .ok (.invokevirtual 50, 3) := by decide +kernel
theorem dX5_countSeeming_7 : decode cX5_countSeeming 7 = .ok (.istore_n 2, 1) := by decide +kernel
theorem dX5_countSeeming_8 : decode cX5_countSeeming 8 = .ok (.aload_n 0, 1) := by decide +kernel
theorem dX5_countSeeming_9 : decode cX5_countSeeming 9 = .ok (.getfield 19, 3) := by decide +kernel
theorem dX5_countSeeming_12 : decode cX5_countSeeming 12 = .ok (.invokevirtual 67, 3) := by decide +kernel
theorem dX5_countSeeming_15 : decode cX5_countSeeming 15 = .ok (.istore_n 3, 1) := by decide +kernel
theorem dX5_countSeeming_16 : decode cX5_countSeeming 16 = .ok (.iconst 0, 1) := by decide +kernel
theorem dX5_countSeeming_17 : decode cX5_countSeeming 17 = .ok (.istore 4, 2) := by decide +kernel
theorem dX5_countSeeming_19 : decode cX5_countSeeming 19 = .ok (.iconst 0, 1) := by decide +kernel
theorem dX5_countSeeming_20 : decode cX5_countSeeming 20 = .ok (.istore 5, 2) := by decide +kernel
theorem dX5_countSeeming_22 : decode cX5_countSeeming 22 = .ok (.iload 5, 2) := by decide +kernel
theorem dX5_countSeeming_24 : decode cX5_countSeeming 24 = .ok (.iconst 1, 1) := by decide +kernel
theorem dX5_countSeeming_25 : decode cX5_countSeeming 25 = .ok (.iadd, 1) := by decide +kernel
theorem dX5_countSeeming_26 : decode cX5_countSeeming 26 = .ok (.iload_n 3, 1) := by decide +kernel
theorem dX5_countSeeming_27 : decode cX5_countSeeming 27 = .ok (.if_icmp .ge 69, 3) := by decide +kernel
theorem dX5_countSeeming_30 : decode cX5_countSeeming 30 = .ok (.aload_n 0, 1) := by decide +kernel
theorem dX5_countSeeming_31 : decode cX5_countSeeming 31 = .ok (.getfield 10, 3) := by decide +kernel
theorem dX5_countSeeming_34 : decode cX5_countSeeming 34 = .ok (.aload_n 0, 1) := by decide +kernel
theorem dX5_countSeeming_35 : decode cX5_countSeeming 35 = .ok (.getfield 19, 3) := by decide +kernel
theorem dX5_countSeeming_38 : decode cX5_countSeeming 38 = .ok (.iload 5, 2) := by decide +kernel
theorem dX5_countSeeming_40 : decode cX5_countSeeming 40 = .ok (.invokevirtual 54, 3) := by decide +kernel
theorem dX5_countSeeming_43 : decode cX5_countSeeming 43 = .ok (.aload_n 0, 1) := by decide +kernel
theorem dX5_countSeeming_44 : decode cX5_countSeeming 44 = .ok (.getfield 19, 3) := by decide +kernel
theorem dX5_countSeeming_47 : decode cX5_countSeeming 47 = .ok (.iload 5, 2) := by decide +kernel
theorem dX5_countSeeming_49 : decode cX5_countSeeming 49 = .ok (.iconst 1, 1) := by decide +kernel
theorem dX5_countSeeming_50 : decode cX5_countSeeming 50 = .ok (.iadd, 1) := by decide +kernel
theorem dX5_countSeeming_51 : decode cX5_countSeeming 51 = .ok (.invokevirtual 54, 3) := by decide +kernel
theorem dX5_countSeeming_54 : decode cX5_countSeeming 54 = .ok (.iload_n 2, 1) := by decide +kernel
theorem dX5_countSeeming_55 : decode cX5_countSeeming 55 = .ok (.invokevirtual 70, 3) := by decide +kernel
theorem dX5_countSeeming_58 : decode cX5_countSeeming 58 = .ok (.istore 6, 2) := by decide +kernel
theorem dX5_countSeeming_60 : decode cX5_countSeeming 60 = .ok (.iload 6, 2) := by decide +kernel
theorem dX5_countSeeming_62 : decode cX5_countSeeming 62 = .ok (.ifCond .ne 7, 3) := by decide +kernel
theorem dX5_countSeeming_65 : decode cX5_countSeeming 65 = .ok (.iconst 0, 1) := by decide +kernel
theorem dX5_countSeeming_66 : decode cX5_countSeeming 66 = .ok (.goto 13, 3) := by decide +kernel
theorem dX5_countSeeming_69 : decode cX5_countSeeming 69 = .ok (.iload 6, 2) := by decide +kernel
theorem dX5_countSeeming_71 : decode cX5_countSeeming 71 = .ok (.ifCond .le 7, 3) := by decide +kernel
theorem dX5_countSeeming_74 : decode cX5_countSeeming 74 = .ok (.iconst 1, 1) := by decide +kernel
theorem dX5_countSeeming_75 : decode cX5_countSeeming 75 = .ok (.goto 4, 3) := by decide +kernel
theorem dX5_countSeeming_78 : decode cX5_countSeeming 78 = .ok (.iconst 2, 1) := by decide +kernel
theorem dX5_countSeeming_79 : decode cX5_countSeeming 79 = .ok (.istore 7, 2) := by decide +kernel
theorem dX5_countSeeming_81 : decode cX5_countSeeming 81 = .ok (.iload 7, 2) := by decide +kernel
theorem dX5_countSeeming_83 : decode cX5_countSeeming 83 = .ok (.iload_n 1, 1) := by decide +kernel
theorem dX5_countSeeming_84 : decode cX5_countSeeming 84 = .ok (.if_icmp .ne 6, 3) := by decide +kernel
theorem dX5_countSeeming_87 : decode cX5_countSeeming 87 = .ok (.iinc 4 1, 3) := by decide +kernel
theorem dX5_countSeeming_90 : decode cX5_countSeeming 90 = .ok (.iinc 5 1, 3) := by decide +kernel
theorem dX5_countSeeming_93 : decode cX5_countSeeming 93 = .ok (.goto (-71), 3) := by decide +kernel
theorem dX5_countSeeming_96 : decode cX5_countSeeming 96 = .ok (.iload 4, 2) := by decide +kernel
theorem dX5_countSeeming_98 : decode cX5_countSeeming 98 = .ok (.ireturn, 1) := by decide +kernel
theorem dX5_differentPictures_0 : decode cX5_differentPictures 0 = .ok (.aload_n 0, 1) := by decide +kernel
theorem dX5_differentPictures_1 : decode cX5_differentPictures 1 = .ok (.getfield 10, 3) := by decide +kernel
theorem dX5_differentPictures_4 : decode cX5_differentPictures 4 = .ok (.aload_n 0, 1) := by decide +kernel
theorem dX5_differentPictures_5 : decode cX5_differentPictures 5 = .ok (.getfield 10, 3) := by decide +kernel
theorem dX5_differentPictures_8 : decode cX5_differentPictures 8 = .ok (.invokevirtual 50, 3) := by decide +kernel
theorem dX5_differentPictures_11 : decode cX5_differentPictures 11 = .ok (.aload_n 0, 1) := by decide +kernel
theorem dX5_differentPictures_12 : decode cX5_differentPictures 12 = .ok (.getfield 19, 3) := by decide +kernel
theorem dX5_differentPictures_15 : decode cX5_differentPictures 15 = .ok (.getfield 74, 3) := by decide +kernel
theorem dX5_differentPictures_18 : decode cX5_differentPictures 18 = .ok (.aload_n 0, 1) := by decide +kernel
theorem dX5_differentPictures_19 : decode cX5_differentPictures 19 = .ok (.getfield 19, 3) := by decide +kernel
theorem dX5_differentPictures_22 : decode cX5_differentPictures 22 = .ok (.invokevirtual 67, 3) := by decide +kernel
theorem dX5_differentPictures_25 : decode cX5_differentPictures 25 = .ok (.aload_n 0, 1) := by decide +kernel
theorem dX5_differentPictures_26 : decode cX5_differentPictures 26 = .ok (.getfield 19, 3) := by decide +kernel
theorem dX5_differentPictures_29 : decode cX5_differentPictures 29 = .ok (.getfield 78, 3) := by decide +kernel
theorem dX5_differentPictures_32 : decode cX5_differentPictures 32 = .ok (.invokevirtual 81, 3) := by decide +kernel
theorem dX5_differentPictures_35 : decode cX5_differentPictures 35 = .ok (.invokestatic 85, 3) := by decide +kernel
theorem dX5_differentPictures_38 : decode cX5_differentPictures 38 = .ok (.ireturn, 1) := by decide +kernel
theorem dX6_init_0 : decode cX6_init 0 = .ok (.aload_n 0, 1) := by decide +kernel
theorem dX6_init_1 : decode cX6_init 1 = .ok (.invokespecial 3, 3) := by decide +kernel
theorem dX6_init_4 : decode cX6_init 4 = .ok (.aload_n 0, 1) := by decide +kernel
theorem dX6_init_5 : decode cX6_init 5 = .ok (.bipush 60, 2) := by decide +kernel
theorem dX6_init_7 : decode cX6_init 7 = .ok (.newarray .int, 2) := by decide +kernel
theorem dX6_init_9 : decode cX6_init 9 = .ok (.putfield 9, 3) := by decide +kernel
theorem dX6_init_12 : decode cX6_init 12 = .ok (.aload_n 0, 1) := by decide +kernel
theorem dX6_init_13 : decode cX6_init 13 = .ok (.iconst 5, 1) := by decide +kernel
theorem dX6_init_14 : decode cX6_init 14 = .ok (.newarray .int, 2) := by decide +kernel
theorem dX6_init_16 : decode cX6_init 16 = .ok (.putfield 15, 3) := by decide +kernel
theorem dX6_init_19 : decode cX6_init 19 = .ok (.aload_n 0, 1) := by decide +kernel
theorem dX6_init_20 : decode cX6_init 20 = .ok (.iconst 5, 1) := by decide +kernel
theorem dX6_init_21 : decode cX6_init 21 = .ok (.newarray .int, 2) := by decide +kernel
theorem dX6_init_23 : decode cX6_init 23 = .ok (.putfield 18, 3) := by decide +kernel
theorem dX6_init_26 : decode cX6_init 26 = .ok (.aload_n 0, 1) := by decide +kernel
theorem dX6_init_27 : decode cX6_init 27 = .ok (.bipush 12, 2) := by decide +kernel
theorem dX6_init_29 : decode cX6_init 29 = .ok (.putfield 21, 3) := by decide +kernel
theorem dX6_init_32 : decode cX6_init 32 = .ok (.iconst 0, 1) := by decide +kernel
theorem dX6_init_33 : decode cX6_init 33 = .ok (.istore_n 1, 1) := by decide +kernel
theorem dX6_init_34 : decode cX6_init 34 = .ok (.iload_n 1, 1) := by decide +kernel
theorem dX6_init_35 : decode cX6_init 35 = .ok (.aload_n 0, 1) := by decide +kernel
theorem dX6_init_36 : decode cX6_init 36 = .ok (.getfield 21, 3) := by decide +kernel
theorem dX6_init_39 : decode cX6_init 39 = .ok (.if_icmp .ge 18, 3) := by decide +kernel
theorem dX6_init_42 : decode cX6_init 42 = .ok (.aload_n 0, 1) := by decide +kernel
theorem dX6_init_43 : decode cX6_init 43 = .ok (.getfield 9, 3) := by decide +kernel
theorem dX6_init_46 : decode cX6_init 46 = .ok (.iload_n 1, 1) := by decide +kernel
theorem dX6_init_47 : decode cX6_init 47 = .ok (.iconst 1, 1) := by decide +kernel
theorem dX6_init_48 : decode cX6_init 48 = .ok (.invokestatic 25, 3) := by decide +kernel
theorem dX6_init_51 : decode cX6_init 51 = .ok (.iinc 1 3, 3) := by decide +kernel
theorem dX6_init_54 : decode cX6_init 54 = .ok (.goto (-20), 3) := by decide +kernel
theorem dX6_init_57 : decode cX6_init 57 = .ok (.return_, 1) := by decide +kernel
theorem dX6_copyFrom_0 : decode cX6_copyFrom 0 = .ok (.aload_n 1, 1) := by decide +kernel
theorem dX6_copyFrom_1 : decode cX6_copyFrom 1 = .ok (.getfield 9, 3) := by decide +kernel
theorem dX6_copyFrom_4 : decode cX6_copyFrom 4 = .ok (.aload_n 0, 1) := by decide +kernel
theorem dX6_copyFrom_5 : decode cX6_copyFrom 5 = .ok (.getfield 9, 3) := by decide +kernel
theorem dX6_copyFrom_8 : decode cX6_copyFrom 8 = .ok (.invokestatic 29, 3) := by decide +kernel
theorem dX6_copyFrom_11 : decode cX6_copyFrom 11 = .ok (.aload_n 1, 1) := by decide +kernel
theorem dX6_copyFrom_12 : decode cX6_copyFrom 12 = .ok (.getfield 15, 3) := by decide +kernel
theorem dX6_copyFrom_15 : decode cX6_copyFrom 15 = .ok (.aload_n 0, 1) := by decide +kernel
theorem dX6_copyFrom_16 : decode cX6_copyFrom 16 = .ok (.getfield 15, 3) := by decide +kernel
theorem dX6_copyFrom_19 : decode cX6_copyFrom 19 = .ok (.invokestatic 29, 3) := by decide +kernel
theorem dX6_copyFrom_22 : decode cX6_copyFrom 22 = .ok (.aload_n 1, 1) := by decide +kernel
theorem dX6_copyFrom_23 : decode cX6_copyFrom 23 = .ok (.getfield 18, 3) := by decide +kernel
theorem dX6_copyFrom_26 : decode cX6_copyFrom 26 = .ok (.aload_n 0, 1) := by decide +kernel
theorem dX6_copyFrom_27 : decode cX6_copyFrom 27 = .ok (.getfield 18, 3) := by decide +kernel
theorem dX6_copyFrom_30 : decode cX6_copyFrom 30 = .ok (.invokestatic 29, 3) := by decide +kernel
theorem dX6_copyFrom_33 : decode cX6_copyFrom 33 = .ok (.aload_n 0, 1) := by decide +kernel
theorem dX6_copyFrom_34 : decode cX6_copyFrom 34 = .ok (.aload_n 1, 1) := by decide +kernel
theorem dX6_copyFrom_35 : decode cX6_copyFrom 35 = .ok (.getfield 21, 3) := by decide +kernel
theorem dX6_copyFrom_38 : decode cX6_copyFrom 38 = .ok (.putfield 21, 3) := by decide +kernel
theorem dX6_copyFrom_41 : decode cX6_copyFrom 41 = .ok (.aload_n 0, 1) := by decide +kernel
theorem dX6_copyFrom_42 : decode cX6_copyFrom 42 = .ok (.aload_n 1, 1) := by decide +kernel
theorem dX6_copyFrom_43 : decode cX6_copyFrom 43 = .ok (.getfield 33, 3) := by decide +kernel
theorem dX6_copyFrom_46 : decode cX6_copyFrom 46 = .ok (.putfield 33, 3) := by decide +kernel
theorem dX6_copyFrom_49 : decode cX6_copyFrom 49 = .ok (.aload_n 0, 1) := by decide +kernel
theorem dX6_copyFrom_50 : decode cX6_copyFrom 50 = .ok (.aload_n 1, 1) := by decide +kernel
theorem dX6_copyFrom_51 : decode cX6_copyFrom 51 = .ok (.getfield 36, 3) := by decide +kernel
theorem dX6_copyFrom_54 : decode cX6_copyFrom 54 = .ok (.putfield 36, 3) := by decide +kernel
theorem dX6_copyFrom_57 : decode cX6_copyFrom 57 = .ok (.aload_n 0, 1) := by decide +kernel
theorem dX6_copyFrom_58 : decode cX6_copyFrom 58 = .ok (.aload_n 1, 1) := by decide +kernel
theorem dX6_copyFrom_59 : decode cX6_copyFrom 59 = .ok (.getfield 39, 3) := by decide +kernel
theorem dX6_copyFrom_62 : decode cX6_copyFrom 62 = .ok (.putfield 39, 3) := by decide +kernel
theorem dX6_copyFrom_65 : decode cX6_copyFrom 65 = .ok (.return_, 1) := by decide +kernel
theorem dX6_empty_0 : decode cX6_empty 0 = .ok (.aload_n 0, 1) := by decide +kernel
theorem dX6_empty_1 : decode cX6_empty 1 = .ok (.iconst 0, 1) := by decide +kernel
theorem dX6_empty_2 : decode cX6_empty 2 = .ok (.putfield 21, 3) := by decide +kernel
theorem dX6_empty_5 : decode cX6_empty 5 = .ok (.aload_n 0, 1) := by decide +kernel
theorem dX6_empty_6 : decode cX6_empty 6 = .ok (.iconst 0, 1) := by decide +kernel
theorem dX6_empty_7 : decode cX6_empty 7 = .ok (.putfield 33, 3) := by decide +kernel
theorem dX6_empty_10 : decode cX6_empty 10 = .ok (.aload_n 0, 1) := by decide +kernel
theorem dX6_empty_11 : decode cX6_empty 11 = .ok (.iconst 0, 1) := by decide +kernel
theorem dX6_empty_12 : decode cX6_empty 12 = .ok (.putfield 36, 3) := by decide +kernel
theorem dX6_empty_15 : decode cX6_empty 15 = .ok (.aload_n 0, 1) := by decide +kernel
theorem dX6_empty_16 : decode cX6_empty 16 = .ok (.iconst 0, 1) := by decide +kernel
theorem dX6_empty_17 : decode cX6_empty 17 = .ok (.putfield 39, 3) := by decide +kernel
theorem dX6_empty_20 : decode cX6_empty 20 = .ok (.return_, 1) := by decide +kernel
theorem dX6_addCell_0 : decode cX6_addCell 0 = .ok (.aload_n 0, 1) := by decide +kernel
theorem dX6_addCell_1 : decode cX6_addCell 1 = .ok (.getfield 9, 3) := by decide +kernel
theorem dX6_addCell_4 : decode cX6_addCell 4 = .ok (.aload_n 0, 1) := by decide +kernel
theorem dX6_addCell_5 : decode cX6_addCell 5 = .ok (.getfield 21, 3) := by decide +kernel
theorem dX6_addCell_8 : decode cX6_addCell 8 = .ok (.iload_n 1, 1) := by decide +kernel
theorem dX6_addCell_9 : decode cX6_addCell 9 = .ok (.invokestatic 25, 3) := by decide +kernel
theorem dX6_addCell_12 : decode cX6_addCell 12 = .ok (.aload_n 0, 1) := by decide +kernel
theorem dX6_addCell_13 : decode cX6_addCell 13 = .ok (.dup, 1) := by decide +kernel
theorem dX6_addCell_14 : decode cX6_addCell 14 = .ok (.getfield 21, 3) := by decide +kernel
theorem dX6_addCell_17 : decode cX6_addCell 17 = .ok (.iconst 1, 1) := by decide +kernel
theorem dX6_addCell_18 : decode cX6_addCell 18 = .ok (.iadd, 1) := by decide +kernel
theorem dX6_addCell_19 : decode cX6_addCell 19 = .ok (.putfield 21, 3) := by decide +kernel
theorem dX6_addCell_22 : decode cX6_addCell 22 = .ok (.return_, 1) := by decide +kernel
theorem dX6_markOf_0 : decode cX6_markOf 0 = .ok (.aload_n 0, 1) := by decide +kernel
theorem dX6_markOf_1 : decode cX6_markOf 1 = .ok (.getfield 9, 3) := by decide +kernel
theorem dX6_markOf_4 : decode cX6_markOf 4 = .ok (.iload_n 1, 1) := by decide +kernel
theorem dX6_markOf_5 : decode cX6_markOf 5 = .ok (.invokestatic 42, 3) := by decide +kernel
theorem dX6_markOf_8 : decode cX6_markOf 8 = .ok (.ireturn, 1) := by decide +kernel
theorem dX6_markedCells_0 : decode cX6_markedCells 0 = .ok (.iconst 0, 1) := by decide +kernel
theorem dX6_markedCells_1 : decode cX6_markedCells 1 = .ok (.istore_n 1, 1) := by decide +kernel
theorem dX6_markedCells_2 : decode cX6_markedCells 2 = .ok (.iconst 0, 1) := by decide +kernel
theorem dX6_markedCells_3 : decode cX6_markedCells 3 = .ok (.istore_n 2, 1) := by decide +kernel
theorem dX6_markedCells_4 : decode cX6_markedCells 4 = .ok (.iload_n 2, 1) := by decide +kernel
theorem dX6_markedCells_5 : decode cX6_markedCells 5 = .ok (.aload_n 0, 1) := by decide +kernel
theorem dX6_markedCells_6 : decode cX6_markedCells 6 = .ok (.getfield 21, 3) := by decide +kernel
theorem dX6_markedCells_9 : decode cX6_markedCells 9 = .ok (.if_icmp .ge 20, 3) := by decide +kernel
theorem dX6_markedCells_12 : decode cX6_markedCells 12 = .ok (.aload_n 0, 1) := by decide +kernel
theorem dX6_markedCells_13 : decode cX6_markedCells 13 = .ok (.iload_n 2, 1) := by decide +kernel
theorem dX6_markedCells_14 : decode cX6_markedCells 14 = .ok (.invokevirtual 46, 3) := by decide +kernel
theorem dX6_markedCells_17 : decode cX6_markedCells 17 = .ok (.ifCond .eq 6, 3) := by decide +kernel
theorem dX6_markedCells_20 : decode cX6_markedCells 20 = .ok (.iinc 1 1, 3) := by decide +kernel
theorem dX6_markedCells_23 : decode cX6_markedCells 23 = .ok (.iinc 2 1, 3) := by decide +kernel
theorem dX6_markedCells_26 : decode cX6_markedCells 26 = .ok (.goto (-22), 3) := by decide +kernel
theorem dX6_markedCells_29 : decode cX6_markedCells 29 = .ok (.iload_n 1, 1) := by decide +kernel
theorem dX6_markedCells_30 : decode cX6_markedCells 30 = .ok (.ireturn, 1) := by decide +kernel
theorem dX6_measure_0 : decode cX6_measure 0 = .ok (.iconst 1, 1) := by decide +kernel
theorem dX6_measure_1 : decode cX6_measure 1 = .ok (.istore_n 1, 1) := by decide +kernel
theorem dX6_measure_2 : decode cX6_measure 2 = .ok (.iload_n 1, 1) := by decide +kernel
theorem dX6_measure_3 : decode cX6_measure 3 = .ok (.aload_n 0, 1) := by decide +kernel
theorem dX6_measure_4 : decode cX6_measure 4 = .ok (.getfield 21, 3) := by decide +kernel
theorem dX6_measure_7 : decode cX6_measure 7 = .ok (.if_icmp .ge 30, 3) := by decide +kernel
theorem dX6_measure_10 : decode cX6_measure 10 = .ok (.aload_n 0, 1) := by decide +kernel
theorem dX6_measure_11 : decode cX6_measure 11 = .ok (.getfield 21, 3) := by decide +kernel
theorem dX6_measure_14 : decode cX6_measure 14 = .ok (.iload_n 1, 1) := by decide +kernel
theorem dX6_measure_15 : decode cX6_measure 15 = .ok (.invokestatic 50, 3) := by decide +kernel
theorem dX6_measure_18 : decode cX6_measure 18 = .ok (.ifCond .ne 13, 3) := by decide +kernel
theorem dX6_measure_21 : decode cX6_measure 21 = .ok (.aload_n 0, 1) := by decide +kernel
theorem dX6_measure_22 : decode cX6_measure 22 = .ok (.iload_n 1, 1) := by decide +kernel
theorem dX6_measure_23 : decode cX6_measure 23 = .ok (.invokevirtual 54, 3) := by decide +kernel
theorem dX6_measure_26 : decode cX6_measure 26 = .ok (.ifCond .eq 5, 3) := by decide +kernel
theorem dX6_measure_29 : decode cX6_measure 29 = .ok (.iload_n 1, 1) := by decide +kernel
theorem dX6_measure_30 : decode cX6_measure 30 = .ok (.ireturn, 1) := by decide +kernel
theorem dX6_measure_31 : decode cX6_measure 31 = .ok (.iinc 1 1, 3) := by decide +kernel
theorem dX6_measure_34 : decode cX6_measure 34 = .ok (.goto (-32), 3) := by decide +kernel
theorem dX6_measure_37 : decode cX6_measure 37 = .ok (.aload_n 0, 1) := by decide +kernel
theorem dX6_measure_38 : decode cX6_measure 38 = .ok (.getfield 21, 3) := by decide +kernel
theorem dX6_measure_41 : decode cX6_measure 41 = .ok (.ireturn, 1) := by decide +kernel
theorem dX6_isSameTurnedBy_0 : decode cX6_isSameTurnedBy 0 = .ok (.iconst 0, 1) := by decide +kernel
theorem dX6_isSameTurnedBy_1 : decode cX6_isSameTurnedBy 1 = .ok (.istore_n 2, 1) := by decide +kernel
theorem dX6_isSameTurnedBy_2 : decode cX6_isSameTurnedBy 2 = .ok (.iload_n 2, 1) := by decide +kernel
theorem dX6_isSameTurnedBy_3 : decode cX6_isSameTurnedBy 3 = .ok (.iload_n 1, 1) := by decide +kernel
theorem dX6_isSameTurnedBy_4 : decode cX6_isSameTurnedBy 4 = .ok (.iadd, 1) := by decide +kernel
theorem dX6_isSameTurnedBy_5 : decode cX6_isSameTurnedBy 5 = .ok (.aload_n 0, 1) := by decide +kernel
theorem dX6_isSameTurnedBy_6 : decode cX6_isSameTurnedBy 6 = .ok (.getfield 21, 3) := by decide +kernel
theorem dX6_isSameTurnedBy_9 : decode cX6_isSameTurnedBy 9 = .ok (.if_icmp .ge 32, 3) := by decide +kernel
theorem dX6_isSameTurnedBy_12 : decode cX6_isSameTurnedBy 12 = .ok (.aload_n 0, 1) := by decide +kernel
theorem dX6_isSameTurnedBy_13 : decode cX6_isSameTurnedBy 13 = .ok (.getfield 9, 3) := by decide +kernel
theorem dX6_isSameTurnedBy_16 : decode cX6_isSameTurnedBy 16 = .ok (.iload_n 2, 1) := by decide +kernel
theorem dX6_isSameTurnedBy_17 : decode cX6_isSameTurnedBy 17 = .ok (.invokestatic 42, 3) := by decide +kernel
theorem dX6_isSameTurnedBy_20 : decode cX6_isSameTurnedBy 20 = .ok (.aload_n 0, 1) := by decide +kernel
theorem dX6_isSameTurnedBy_21 : decode cX6_isSameTurnedBy 21 = .ok (.getfield 9, 3) := by decide +kernel
theorem dX6_isSameTurnedBy_24 : decode cX6_isSameTurnedBy 24 = .ok (.iload_n 2, 1) := by decide +kernel
theorem dX6_isSameTurnedBy_25 : decode cX6_isSameTurnedBy 25 = .ok (.iload_n 1, 1) := by decide +kernel
theorem dX6_isSameTurnedBy_26 : decode cX6_isSameTurnedBy 26 = .ok (.iadd, 1) := by decide +kernel
theorem dX6_isSameTurnedBy_27 : decode cX6_isSameTurnedBy 27 = .ok (.invokestatic 42, 3) := by decide +kernel
theorem dX6_isSameTurnedBy_30 : decode cX6_isSameTurnedBy 30 = .ok (.if_icmp .eq 5, 3) := by decide +kernel
theorem dX6_isSameTurnedBy_33 : decode cX6_isSameTurnedBy 33 = .ok (.iconst 0, 1) := by decide +kernel
theorem dX6_isSameTurnedBy_34 : decode cX6_isSameTurnedBy 34 = .ok (.ireturn, 1) := by decide +kernel
theorem dX6_isSameTurnedBy_35 : decode cX6_isSameTurnedBy 35 = .ok (.iinc 2 1, 3) := by decide +kernel
theorem dX6_isSameTurnedBy_38 : decode cX6_isSameTurnedBy 38 = .ok (.goto (-36), 3) := by decide +kernel
theorem dX6_isSameTurnedBy_41 : decode cX6_isSameTurnedBy 41 = .ok (.iconst 1, 1) := by decide +kernel
theorem dX6_isSameTurnedBy_42 : decode cX6_isSameTurnedBy 42 = .ok (.ireturn, 1) := by decide +kernel
theorem dX6_placeOfChange_0 : decode cX6_placeOfChange 0 = .ok (.iconst 0, 1) := by decide +kernel
theorem dX6_placeOfChange_1 : decode cX6_placeOfChange 1 = .ok (.istore_n 2, 1) := by decide +kernel
theorem dX6_placeOfChange_2 : decode cX6_placeOfChange 2 = .ok (.iload_n 2, 1) := by decide +kernel
theorem dX6_placeOfChange_3 : decode cX6_placeOfChange 3 = .ok (.aload_n 0, 1) := by decide +kernel
theorem dX6_placeOfChange_4 : decode cX6_placeOfChange 4 = .ok (.getfield 39, 3) := by decide +kernel
theorem dX6_placeOfChange_7 : decode cX6_placeOfChange 7 = .ok (.if_icmp .ge 21, 3) := by decide +kernel
theorem dX6_placeOfChange_10 : decode cX6_placeOfChange 10 = .ok (.aload_n 0, 1) := by decide +kernel
theorem dX6_placeOfChange_11 : decode cX6_placeOfChange 11 = .ok (.getfield 15, 3) := by decide +kernel
theorem dX6_placeOfChange_14 : decode cX6_placeOfChange 14 = .ok (.iload_n 2, 1) := by decide +kernel
theorem dX6_placeOfChange_15 : decode cX6_placeOfChange 15 = .ok (.invokestatic 42, 3) := by decide +kernel
theorem dX6_placeOfChange_18 : decode cX6_placeOfChange 18 = .ok (.iload_n 1, 1) := by decide +kernel
theorem dX6_placeOfChange_19 : decode cX6_placeOfChange 19 = .ok (.if_icmp .ge 9, 3) := by decide +kernel
theorem dX6_placeOfChange_22 : decode cX6_placeOfChange 22 = .ok (.iinc 2 1, 3) := by decide +kernel
theorem dX6_placeOfChange_25 : decode cX6_placeOfChange 25 = .ok (.goto (-23), 3) := by decide +kernel
theorem dX6_placeOfChange_28 : decode cX6_placeOfChange 28 = .ok (.iload_n 2, 1) := by decide +kernel
theorem dX6_placeOfChange_29 : decode cX6_placeOfChange 29 = .ok (.ireturn, 1) := by decide +kernel
theorem dX6_hasChange_0 : decode cX6_hasChange 0 = .ok (.aload_n 0, 1) := by decide +kernel
theorem dX6_hasChange_1 : decode cX6_hasChange 1 = .ok (.iload_n 1, 1) := by decide +kernel
theorem dX6_hasChange_2 : decode cX6_hasChange 2 = .ok (.invokevirtual 58, 3) := by decide +kernel
theorem dX6_hasChange_5 : decode cX6_hasChange 5 = .ok (.istore_n 2, 1) := by decide +kernel
theorem dX6_hasChange_6 : decode cX6_hasChange 6 = .ok (.iload_n 2, 1) := by decide +kernel
theorem dX6_hasChange_7 : decode cX6_hasChange 7 = .ok (.aload_n 0, 1) := by decide +kernel
theorem dX6_hasChange_8 : decode cX6_hasChange 8 = .ok (.getfield 39, 3) := by decide +kernel
theorem dX6_hasChange_11 : decode cX6_hasChange 11 = .ok (.if_icmp .ge 19, 3) := by decide +kernel
theorem dX6_hasChange_14 : decode cX6_hasChange 14 = .ok (.aload_n 0, 1) := by decide +kernel
theorem dX6_hasChange_15 : decode cX6_hasChange 15 = .ok (.getfield 15, 3) := by decide +kernel
theorem dX6_hasChange_18 : decode cX6_hasChange 18 = .ok (.iload_n 2, 1) := by decide +kernel
theorem dX6_hasChange_19 : decode cX6_hasChange 19 = .ok (.invokestatic 42, 3) := by decide +kernel
theorem dX6_hasChange_22 : decode cX6_hasChange 22 = .ok (.iload_n 1, 1) := by decide +kernel
theorem dX6_hasChange_23 : decode cX6_hasChange 23 = .ok (.if_icmp .ne 7, 3) := by decide +kernel
theorem dX6_hasChange_26 : decode cX6_hasChange 26 = .ok (.iconst 1, 1) := by decide +kernel
theorem dX6_hasChange_27 : decode cX6_hasChange 27 = .ok (.goto 4, 3) := by decide +kernel
theorem dX6_hasChange_30 : decode cX6_hasChange 30 = .ok (.iconst 0, 1) := by decide +kernel
theorem dX6_hasChange_31 : decode cX6_hasChange 31 = .ok (.ireturn, 1) := by decide +kernel
theorem dX6_hasRoomFor_0 : decode cX6_hasRoomFor 0 = .ok (.iload_n 1, 1) := by decide +kernel
theorem dX6_hasRoomFor_1 : decode cX6_hasRoomFor 1 = .ok (.ifCond .eq 19, 3) := by decide +kernel
theorem dX6_hasRoomFor_4 : decode cX6_hasRoomFor 4 = .ok (.aload_n 0, 1) := by decide +kernel
theorem dX6_hasRoomFor_5 : decode cX6_hasRoomFor 5 = .ok (.iload_n 1, 1) := by decide +kernel
theorem dX6_hasRoomFor_6 : decode cX6_hasRoomFor 6 = .ok (.invokevirtual 61, 3) := by decide +kernel
theorem dX6_hasRoomFor_9 : decode cX6_hasRoomFor 9 = .ok (.ifCond .ne 11, 3) := by decide +kernel
theorem dX6_hasRoomFor_12 : decode cX6_hasRoomFor 12 = .ok (.aload_n 0, 1) := by decide +kernel
theorem dX6_hasRoomFor_13 : decode cX6_hasRoomFor 13 = .ok (.getfield 39, 3) := by decide +kernel
theorem dX6_hasRoomFor_16 : decode cX6_hasRoomFor 16 = .ok (.iconst 5, 1) := by decide +kernel
theorem dX6_hasRoomFor_17 : decode cX6_hasRoomFor 17 = .ok (.if_icmp .ge 7, 3) := by decide +kernel
theorem dX6_hasRoomFor_20 : decode cX6_hasRoomFor 20 = .ok (.iconst 1, 1) := by decide +kernel
theorem dX6_hasRoomFor_21 : decode cX6_hasRoomFor 21 = .ok (.goto 4, 3) := by decide +kernel
theorem dX6_hasRoomFor_24 : decode cX6_hasRoomFor 24 = .ok (.iconst 0, 1) := by decide +kernel
theorem dX6_hasRoomFor_25 : decode cX6_hasRoomFor 25 = .ok (.ireturn, 1) := by decide +kernel
theorem dX6_putSpeed_0 : decode cX6_putSpeed 0 = .ok (.iload_n 1, 1) := by decide +kernel
theorem dX6_putSpeed_1 : decode cX6_putSpeed 1 = .ok (.ifCond .ne 9, 3) := by decide +kernel
theorem dX6_putSpeed_4 : decode cX6_putSpeed 4 = .ok (.aload_n 0, 1) := by decide +kernel
theorem dX6_putSpeed_5 : decode cX6_putSpeed 5 = .ok (.iload_n 2, 1) := by decide +kernel
theorem dX6_putSpeed_6 : decode cX6_putSpeed 6 = .ok (.putfield 36, 3) := by decide +kernel
theorem dX6_putSpeed_9 : decode cX6_putSpeed 9 = .ok (.return_, 1) := by decide +kernel
theorem dX6_putSpeed_10 : decode cX6_putSpeed 10 = .ok (.aload_n 0, 1) := by decide +kernel
theorem dX6_putSpeed_11 : decode cX6_putSpeed 11 = .ok (.iload_n 1, 1) := by decide +kernel
theorem dX6_putSpeed_12 : decode cX6_putSpeed 12 = .ok (.invokevirtual 61, 3) := by decide +kernel
theorem dX6_putSpeed_15 : decode cX6_putSpeed 15 = .ok (.ifCond .ne 8, 3) := by decide +kernel
theorem dX6_putSpeed_18 : decode cX6_putSpeed 18 = .ok (.aload_n 0, 1) := by decide +kernel
theorem dX6_putSpeed_19 : decode cX6_putSpeed 19 = .ok (.iload_n 1, 1) := by decide +kernel
theorem dX6_putSpeed_20 : decode cX6_putSpeed 20 = .ok (.invokevirtual 64, 3) := by decide +kernel
theorem dX6_putSpeed_23 : decode cX6_putSpeed 23 = .ok (.aload_n 0, 1) := by decide +kernel
theorem dX6_putSpeed_24 : decode cX6_putSpeed 24 = .ok (.getfield 18, 3) := by decide +kernel
theorem dX6_putSpeed_27 : decode cX6_putSpeed 27 = .ok (.aload_n 0, 1) := by decide +kernel
theorem dX6_putSpeed_28 : decode cX6_putSpeed 28 = .ok (.iload_n 1, 1) := by decide +kernel
theorem dX6_putSpeed_29 : decode cX6_putSpeed 29 = .ok (.invokevirtual 58, 3) := by decide +kernel
theorem dX6_putSpeed_32 : decode cX6_putSpeed 32 = .ok (.iload_n 2, 1) := by decide +kernel
theorem dX6_putSpeed_33 : decode cX6_putSpeed 33 = .ok (.invokestatic 25, 3) := by decide +kernel
theorem dX6_putSpeed_36 : decode cX6_putSpeed 36 = .ok (.return_, 1) := by decide +kernel
theorem dX6_insertChange_0 : decode cX6_insertChange 0 = .ok (.aload_n 0, 1) := by decide +kernel
theorem dX6_insertChange_1 : decode cX6_insertChange 1 = .ok (.iload_n 1, 1) := by decide +kernel
theorem dX6_insertChange_2 : decode cX6_insertChange 2 = .ok (.invokevirtual 58, 3) := by decide +kernel
theorem dX6_insertChange_5 : decode cX6_insertChange 5 = .ok (.istore_n 2, 1) := by decide +kernel
theorem dX6_insertChange_6 : decode cX6_insertChange 6 = .ok (.aload_n 0, 1) := by decide +kernel
theorem dX6_insertChange_7 : decode cX6_insertChange 7 = .ok (.getfield 39, 3) := by decide +kernel
theorem dX6_insertChange_10 : decode cX6_insertChange 10 = .ok (.istore_n 3, 1) := by decide +kernel
theorem dX6_insertChange_11 : decode cX6_insertChange 11 = .ok (.iload_n 3, 1) := by decide +kernel
theorem dX6_insertChange_12 : decode cX6_insertChange 12 = .ok (.iload_n 2, 1) := by decide +kernel
theorem dX6_insertChange_13 : decode cX6_insertChange 13 = .ok (.if_icmp .le 45, 3) := by decide +kernel
theorem dX6_insertChange_16 : decode cX6_insertChange 16 = .ok (.aload_n 0, 1) := by decide +kernel
theorem dX6_insertChange_17 : decode cX6_insertChange 17 = .ok (.getfield 15, 3) := by decide +kernel
theorem dX6_insertChange_20 : decode cX6_insertChange 20 = .ok (.iload_n 3, 1) := by decide +kernel
theorem dX6_insertChange_21 : decode cX6_insertChange 21 = .ok (.aload_n 0, 1) := by decide +kernel
theorem dX6_insertChange_22 : decode cX6_insertChange 22 = .ok (.getfield 15, 3) := by decide +kernel
theorem dX6_insertChange_25 : decode cX6_insertChange 25 = .ok (.iload_n 3, 1) := by decide +kernel
theorem dX6_insertChange_26 : decode cX6_insertChange 26 = .ok (.iconst 1, 1) := by decide +kernel
theorem dX6_insertChange_27 : decode cX6_insertChange 27 = .ok (.isub, 1) := by decide +kernel
theorem dX6_insertChange_28 : decode cX6_insertChange 28 = .ok (.invokestatic 42, 3) := by decide +kernel
theorem dX6_insertChange_31 : decode cX6_insertChange 31 = .ok (.invokestatic 25, 3) := by decide +kernel
theorem dX6_insertChange_34 : decode cX6_insertChange 34 = .ok (.aload_n 0, 1) := by decide +kernel
theorem dX6_insertChange_35 : decode cX6_insertChange 35 = .ok (.getfield 18, 3) := by decide +kernel
theorem dX6_insertChange_38 : decode cX6_insertChange 38 = .ok (.iload_n 3, 1) := by decide +kernel
theorem dX6_insertChange_39 : decode cX6_insertChange 39 = .ok (.aload_n 0, 1) := by decide +kernel
theorem dX6_insertChange_40 : decode cX6_insertChange 40 = .ok (.getfield 18, 3) := by decide +kernel
theorem dX6_insertChange_43 : decode cX6_insertChange 43 = .ok (.iload_n 3, 1) := by decide +kernel
theorem dX6_insertChange_44 : decode cX6_insertChange 44 = .ok (.iconst 1, 1) := by decide +kernel
theorem dX6_insertChange_45 : decode cX6_insertChange 45 = .ok (.isub, 1) := by decide +kernel
theorem dX6_insertChange_46 : decode cX6_insertChange 46 = .ok (.invokestatic 42, 3) := by decide +kernel
theorem dX6_insertChange_49 : decode cX6_insertChange 49 = .ok (.invokestatic 25, 3) := by decide +kernel
theorem dX6_insertChange_52 : decode cX6_insertChange 52 = .ok (.iinc 3 (-1), 3) := by decide +kernel
theorem dX6_insertChange_55 : decode cX6_insertChange 55 = .ok (.goto (-44), 3) := by decide +kernel
theorem dX6_insertChange_58 : decode cX6_insertChange 58 = .ok (.aload_n 0, 1) := by decide +kernel
theorem dX6_insertChange_59 : decode cX6_insertChange 59 = .ok (.getfield 15, 3) := by decide +kernel
theorem dX6_insertChange_62 : decode cX6_insertChange 62 = .ok (.iload_n 2, 1) := by decide +kernel
theorem dX6_insertChange_63 : decode cX6_insertChange 63 = .ok (.iload_n 1, 1) := by decide +kernel
theorem dX6_insertChange_64 : decode cX6_insertChange 64 = .ok (.invokestatic 25, 3) := by decide +kernel
theorem dX6_insertChange_67 : decode cX6_insertChange 67 = .ok (.aload_n 0, 1) := by decide +kernel
theorem dX6_insertChange_68 : decode cX6_insertChange 68 = .ok (.dup, 1) := by decide +kernel
theorem dX6_insertChange_69 : decode cX6_insertChange 69 = .ok (.getfield 39, 3) := by decide +kernel
theorem dX6_insertChange_72 : decode cX6_insertChange 72 = .ok (.iconst 1, 1) := by decide +kernel
theorem dX6_insertChange_73 : decode cX6_insertChange 73 = .ok (.iadd, 1) := by decide +kernel
theorem dX6_insertChange_74 : decode cX6_insertChange 74 = .ok (.putfield 39, 3) := by decide +kernel
theorem dX6_insertChange_77 : decode cX6_insertChange 77 = .ok (.return_, 1) := by decide +kernel
theorem dX6_removeChange_0 : decode cX6_removeChange 0 = .ok (.aload_n 0, 1) := by decide +kernel
theorem dX6_removeChange_1 : decode cX6_removeChange 1 = .ok (.iload_n 1, 1) := by decide +kernel
theorem dX6_removeChange_2 : decode cX6_removeChange 2 = .ok (.invokevirtual 58, 3) := by decide +kernel
theorem dX6_removeChange_5 : decode cX6_removeChange 5 = .ok (.istore_n 2, 1) := by decide +kernel
theorem dX6_removeChange_6 : decode cX6_removeChange 6 = .ok (.iload_n 2, 1) := by decide +kernel
theorem dX6_removeChange_7 : decode cX6_removeChange 7 = .ok (.iconst 1, 1) := by decide +kernel
theorem dX6_removeChange_8 : decode cX6_removeChange 8 = .ok (.iadd, 1) := by decide +kernel
theorem dX6_removeChange_9 : decode cX6_removeChange 9 = .ok (.aload_n 0, 1) := by decide +kernel
theorem dX6_removeChange_10 : decode cX6_removeChange 10 = .ok (.getfield 39, 3) := by decide +kernel
theorem dX6_removeChange_13 : decode cX6_removeChange 13 = .ok (.if_icmp .ge 45, 3) := by decide +kernel
theorem dX6_removeChange_16 : decode cX6_removeChange 16 = .ok (.aload_n 0, 1) := by decide +kernel
theorem dX6_removeChange_17 : decode cX6_removeChange 17 = .ok (.getfield 15, 3) := by decide +kernel
theorem dX6_removeChange_20 : decode cX6_removeChange 20 = .ok (.iload_n 2, 1) := by decide +kernel
theorem dX6_removeChange_21 : decode cX6_removeChange 21 = .ok (.aload_n 0, 1) := by decide +kernel
theorem dX6_removeChange_22 : decode cX6_removeChange 22 = .ok (.getfield 15, 3) := by decide +kernel
theorem dX6_removeChange_25 : decode cX6_removeChange 25 = .ok (.iload_n 2, 1) := by decide +kernel
theorem dX6_removeChange_26 : decode cX6_removeChange 26 = .ok (.iconst 1, 1) := by decide +kernel
theorem dX6_removeChange_27 : decode cX6_removeChange 27 = .ok (.iadd, 1) := by decide +kernel
theorem dX6_removeChange_28 : decode cX6_removeChange 28 = .ok (.invokestatic 42, 3) := by decide +kernel
theorem dX6_removeChange_31 : decode cX6_removeChange 31 = .ok (.invokestatic 25, 3) := by decide +kernel
theorem dX6_removeChange_34 : decode cX6_removeChange 34 = .ok (.aload_n 0, 1) := by decide +kernel
theorem dX6_removeChange_35 : decode cX6_removeChange 35 = .ok (.getfield 18, 3) := by decide +kernel
theorem dX6_removeChange_38 : decode cX6_removeChange 38 = .ok (.iload_n 2, 1) := by decide +kernel
theorem dX6_removeChange_39 : decode cX6_removeChange 39 = .ok (.aload_n 0, 1) := by decide +kernel
theorem dX6_removeChange_40 : decode cX6_removeChange 40 = .ok (.getfield 18, 3) := by decide +kernel
theorem dX6_removeChange_43 : decode cX6_removeChange 43 = .ok (.iload_n 2, 1) := by decide +kernel
theorem dX6_removeChange_44 : decode cX6_removeChange 44 = .ok (.iconst 1, 1) := by decide +kernel
theorem dX6_removeChange_45 : decode cX6_removeChange 45 = .ok (.iadd, 1) := by decide +kernel
theorem dX6_removeChange_46 : decode cX6_removeChange 46 = .ok (.invokestatic 42, 3) := by decide +kernel
theorem dX6_removeChange_49 : decode cX6_removeChange 49 = .ok (.invokestatic 25, 3) := by decide +kernel
theorem dX6_removeChange_52 : decode cX6_removeChange 52 = .ok (.iinc 2 1, 3) := by decide +kernel
theorem dX6_removeChange_55 : decode cX6_removeChange 55 = .ok (.goto (-49), 3) := by decide +kernel
theorem dX6_removeChange_58 : decode cX6_removeChange 58 = .ok (.aload_n 0, 1) := by decide +kernel
theorem dX6_removeChange_59 : decode cX6_removeChange 59 = .ok (.dup, 1) := by decide +kernel
theorem dX6_removeChange_60 : decode cX6_removeChange 60 = .ok (.getfield 39, 3) := by decide +kernel
theorem dX6_removeChange_63 : decode cX6_removeChange 63 = .ok (.iconst 1, 1) := by decide +kernel
theorem dX6_removeChange_64 : decode cX6_removeChange 64 = .ok (.isub, 1) := by decide +kernel
theorem dX6_removeChange_65 : decode cX6_removeChange 65 = .ok (.putfield 39, 3) := by decide +kernel
theorem dX6_removeChange_68 : decode cX6_removeChange 68 = .ok (.return_, 1) := by decide +kernel
theorem dX6_turnAt_0 : decode cX6_turnAt 0 = .ok (.aload_n 0, 1) := by decide +kernel
theorem dX6_turnAt_1 : decode cX6_turnAt 1 = .ok (.getfield 33, 3) := by decide +kernel
theorem dX6_turnAt_4 : decode cX6_turnAt 4 = .ok (.istore_n 2, 1) := by decide +kernel
theorem dX6_turnAt_5 : decode cX6_turnAt 5 = .ok (.iconst 0, 1) := by decide +kernel
theorem dX6_turnAt_6 : decode cX6_turnAt 6 = .ok (.istore_n 3, 1) := by decide +kernel
theorem dX6_turnAt_7 : decode cX6_turnAt 7 = .ok (.aload_n 0, 1) := by decide +kernel
theorem dX6_turnAt_8 : decode cX6_turnAt 8 = .ok (.getfield 36, 3) := by decide +kernel
theorem dX6_turnAt_11 : decode cX6_turnAt 11 = .ok (.istore 4, 2) := by decide +kernel
theorem dX6_turnAt_13 : decode cX6_turnAt 13 = .ok (.iconst 0, 1) := by decide +kernel
theorem dX6_turnAt_14 : decode cX6_turnAt 14 = .ok (.istore 5, 2) := by decide +kernel
theorem dX6_turnAt_16 : decode cX6_turnAt 16 = .ok (.iload 5, 2) := by decide +kernel
theorem dX6_turnAt_18 : decode cX6_turnAt 18 = .ok (.aload_n 0, 1) := by decide +kernel
theorem dX6_turnAt_19 : decode cX6_turnAt 19 = .ok (.getfield 39, 3) := by decide +kernel
theorem dX6_turnAt_22 : decode cX6_turnAt 22 = .ok (.if_icmp .ge 60, 3) := by decide +kernel
theorem dX6_turnAt_25 : decode cX6_turnAt 25 = .ok (.aload_n 0, 1) := by decide +kernel
theorem dX6_turnAt_26 : decode cX6_turnAt 26 = .ok (.getfield 15, 3) := by decide +kernel
theorem dX6_turnAt_29 : decode cX6_turnAt 29 = .ok (.iload 5, 2) := by decide +kernel
theorem dX6_turnAt_31 : decode cX6_turnAt 31 = .ok (.invokestatic 42, 3) := by decide +kernel
theorem dX6_turnAt_34 : decode cX6_turnAt 34 = .ok (.iload_n 1, 1) := by decide +kernel
theorem dX6_turnAt_35 : decode cX6_turnAt 35 = .ok (.if_icmp .ge 47, 3) := by decide +kernel
theorem dX6_turnAt_38 : decode cX6_turnAt 38 = .ok (.iload_n 2, 1) := by decide +kernel
theorem dX6_turnAt_39 : decode cX6_turnAt 39 = .ok (.iload 4, 2) := by decide +kernel
theorem dX6_turnAt_41 : decode cX6_turnAt 41 = .ok (.aload_n 0, 1) := by decide +kernel
theorem dX6_turnAt_42 : decode cX6_turnAt 42 = .ok (.getfield 15, 3) := by decide +kernel
theorem dX6_turnAt_45 : decode cX6_turnAt 45 = .ok (.iload 5, 2) := by decide +kernel
theorem dX6_turnAt_47 : decode cX6_turnAt 47 = .ok (.invokestatic 42, 3) := by decide +kernel
theorem dX6_turnAt_50 : decode cX6_turnAt 50 = .ok (.iload_n 3, 1) := by decide +kernel
theorem dX6_turnAt_51 : decode cX6_turnAt 51 = .ok (.isub, 1) := by decide +kernel
theorem dX6_turnAt_52 : decode cX6_turnAt 52 = .ok (.imul, 1) := by decide +kernel
theorem dX6_turnAt_53 : decode cX6_turnAt 53 = .ok (.iadd, 1) := by decide +kernel
theorem dX6_turnAt_54 : decode cX6_turnAt 54 = .ok (.istore_n 2, 1) := by decide +kernel
theorem dX6_turnAt_55 : decode cX6_turnAt 55 = .ok (.aload_n 0, 1) := by decide +kernel
theorem dX6_turnAt_56 : decode cX6_turnAt 56 = .ok (.getfield 15, 3) := by decide +kernel
theorem dX6_turnAt_59 : decode cX6_turnAt 59 = .ok (.iload 5, 2) := by decide +kernel
theorem dX6_turnAt_61 : decode cX6_turnAt 61 = .ok (.invokestatic 42, 3) := by decide +kernel
theorem dX6_turnAt_64 : decode cX6_turnAt 64 = .ok (.istore_n 3, 1) := by decide +kernel
theorem dX6_turnAt_65 : decode cX6_turnAt 65 = .ok (.aload_n 0, 1) := by decide +kernel
theorem dX6_turnAt_66 : decode cX6_turnAt 66 = .ok (.getfield 18, 3) := by decide +kernel
theorem dX6_turnAt_69 : decode cX6_turnAt 69 = .ok (.iload 5, 2) := by decide +kernel
theorem dX6_turnAt_71 : decode cX6_turnAt 71 = .ok (.invokestatic 42, 3) := by decide +kernel
theorem dX6_turnAt_74 : decode cX6_turnAt 74 = .ok (.istore 4, 2) := by decide +kernel
theorem dX6_turnAt_76 : decode cX6_turnAt 76 = .ok (.iinc 5 1, 3) := by decide +kernel
theorem dX6_turnAt_79 : decode cX6_turnAt 79 = .ok (.goto (-63), 3) := by decide +kernel
theorem dX6_turnAt_82 : decode cX6_turnAt 82 = .ok (.iload_n 2, 1) := by decide +kernel
theorem dX6_turnAt_83 : decode cX6_turnAt 83 = .ok (.iload 4, 2) := by decide +kernel
theorem dX6_turnAt_85 : decode cX6_turnAt 85 = .ok (.iload_n 1, 1) := by decide +kernel
theorem dX6_turnAt_86 : decode cX6_turnAt 86 = .ok (.iload_n 3, 1) := by decide +kernel
theorem dX6_turnAt_87 : decode cX6_turnAt 87 = .ok (.isub, 1) := by decide +kernel
theorem dX6_turnAt_88 : decode cX6_turnAt 88 = .ok (.imul, 1) := by decide +kernel
theorem dX6_turnAt_89 : decode cX6_turnAt 89 = .ok (.iadd, 1) := by decide +kernel
theorem dX6_turnAt_90 : decode cX6_turnAt 90 = .ok (.ireturn, 1) := by decide +kernel
theorem dX6_stepBetween_0 : decode cX6_stepBetween 0 = .ok (.aload_n 0, 1) := by decide +kernel
theorem dX6_stepBetween_1 : decode cX6_stepBetween 1 = .ok (.iload_n 2, 1) := by decide +kernel
theorem dX6_stepBetween_2 : decode cX6_stepBetween 2 = .ok (.invokevirtual 68, 3) := by decide +kernel
theorem dX6_stepBetween_5 : decode cX6_stepBetween 5 = .ok (.aload_n 0, 1) := by decide +kernel
theorem dX6_stepBetween_6 : decode cX6_stepBetween 6 = .ok (.iload_n 1, 1) := by decide +kernel
theorem dX6_stepBetween_7 : decode cX6_stepBetween 7 = .ok (.invokevirtual 68, 3) := by decide +kernel
theorem dX6_stepBetween_10 : decode cX6_stepBetween 10 = .ok (.isub, 1) := by decide +kernel
theorem dX6_stepBetween_11 : decode cX6_stepBetween 11 = .ok (.iload_n 3, 1) := by decide +kernel
theorem dX6_stepBetween_12 : decode cX6_stepBetween 12 = .ok (.invokestatic 50, 3) := by decide +kernel
theorem dX6_stepBetween_15 : decode cX6_stepBetween 15 = .ok (.istore 4, 2) := by decide +kernel
theorem dX6_stepBetween_17 : decode cX6_stepBetween 17 = .ok (.iconst 2, 1) := by decide +kernel
theorem dX6_stepBetween_18 : decode cX6_stepBetween 18 = .ok (.iload 4, 2) := by decide +kernel
theorem dX6_stepBetween_20 : decode cX6_stepBetween 20 = .ok (.imul, 1) := by decide +kernel
theorem dX6_stepBetween_21 : decode cX6_stepBetween 21 = .ok (.iload_n 3, 1) := by decide +kernel
theorem dX6_stepBetween_22 : decode cX6_stepBetween 22 = .ok (.if_icmp .le 10, 3) := by decide +kernel
theorem dX6_stepBetween_25 : decode cX6_stepBetween 25 = .ok (.iload 4, 2) := by decide +kernel
theorem dX6_stepBetween_27 : decode cX6_stepBetween 27 = .ok (.iload_n 3, 1) := by decide +kernel
theorem dX6_stepBetween_28 : decode cX6_stepBetween 28 = .ok (.isub, 1) := by decide +kernel
theorem dX6_stepBetween_29 : decode cX6_stepBetween 29 = .ok (.goto 5, 3) := by decide +kernel
theorem dX6_stepBetween_32 : decode cX6_stepBetween 32 = .ok (.iload 4, 2) := by decide +kernel
theorem dX6_stepBetween_34 : decode cX6_stepBetween 34 = .ok (.ireturn, 1) := by decide +kernel
theorem dX6_turnsModulo_0 : decode cX6_turnsModulo 0 = .ok (.lconst 0, 1) := by decide +kernel
theorem dX6_turnsModulo_1 : decode cX6_turnsModulo 1 = .ok (.lstore 5, 2) := by decide +kernel
theorem dX6_turnsModulo_3 : decode cX6_turnsModulo 3 = .ok (.iconst 0, 1) := by decide +kernel
theorem dX6_turnsModulo_4 : decode cX6_turnsModulo 4 = .ok (.istore 7, 2) := by decide +kernel
theorem dX6_turnsModulo_6 : decode cX6_turnsModulo 6 = .ok (.iload 7, 2) := by decide +kernel
theorem dX6_turnsModulo_8 : decode cX6_turnsModulo 8 = .ok (.iload_n 3, 1) := by decide +kernel
theorem dX6_turnsModulo_9 : decode cX6_turnsModulo 9 = .ok (.if_icmp .ge 31, 3) := by decide +kernel
theorem dX6_turnsModulo_12 : decode cX6_turnsModulo 12 = .ok (.lload 5, 2) := by decide +kernel
theorem dX6_turnsModulo_14 : decode cX6_turnsModulo 14 = .ok (.lconst 1, 1) := by decide +kernel
theorem dX6_turnsModulo_15 : decode cX6_turnsModulo 15 = .ok (.aload_n 0, 1) := by decide +kernel
theorem dX6_turnsModulo_16 : decode cX6_turnsModulo 16 = .ok (.iload_n 2, 1) := by decide +kernel
theorem dX6_turnsModulo_17 : decode cX6_turnsModulo 17 = .ok (.iload 7, 2) := by decide +kernel
theorem dX6_turnsModulo_19 : decode cX6_turnsModulo 19 = .ok (.iload 4, 2) := by decide +kernel
theorem dX6_turnsModulo_21 : decode cX6_turnsModulo 21 = .ok (.imul, 1) := by decide +kernel
theorem dX6_turnsModulo_22 : decode cX6_turnsModulo 22 = .ok (.iadd, 1) := by decide +kernel
theorem dX6_turnsModulo_23 : decode cX6_turnsModulo 23 = .ok (.invokevirtual 68, 3) := by decide +kernel
theorem dX6_turnsModulo_26 : decode cX6_turnsModulo 26 = .ok (.iload_n 1, 1) := by decide +kernel
theorem dX6_turnsModulo_27 : decode cX6_turnsModulo 27 = .ok (.invokestatic 50, 3) := by decide +kernel
theorem dX6_turnsModulo_30 : decode cX6_turnsModulo 30 = .ok (.lshl, 1) := by decide +kernel
theorem dX6_turnsModulo_31 : decode cX6_turnsModulo 31 = .ok (.lor, 1) := by decide +kernel
theorem dX6_turnsModulo_32 : decode cX6_turnsModulo 32 = .ok (.lstore 5, 2) := by decide +kernel
theorem dX6_turnsModulo_34 : decode cX6_turnsModulo 34 = .ok (.iinc 7 1, 3) := by decide +kernel
theorem dX6_turnsModulo_37 : decode cX6_turnsModulo 37 = .ok (.goto (-31), 3) := by decide +kernel
theorem dX6_turnsModulo_40 : decode cX6_turnsModulo 40 = .ok (.lload 5, 2) := by decide +kernel
theorem dX6_turnsModulo_42 : decode cX6_turnsModulo 42 = .ok (.lreturn, 1) := by decide +kernel
theorem dX6_looksTheSame_0 : decode cX6_looksTheSame 0 = .ok (.aload_n 0, 1) := by decide +kernel
theorem dX6_looksTheSame_1 : decode cX6_looksTheSame 1 = .ok (.aload_n 0, 1) := by decide +kernel
theorem dX6_looksTheSame_2 : decode cX6_looksTheSame 2 = .ok (.invokevirtual 71, 3) := by decide +kernel
theorem dX6_looksTheSame_5 : decode cX6_looksTheSame 5 = .ok (.iload_n 1, 1) := by decide +kernel
theorem dX6_looksTheSame_6 : decode cX6_looksTheSame 6 = .ok (.iload_n 2, 1) := by decide +kernel
theorem dX6_looksTheSame_7 : decode cX6_looksTheSame 7 = .ok (.iconst 1, 1) := by decide +kernel
theorem dX6_looksTheSame_8 : decode cX6_looksTheSame 8 = .ok (.invokevirtual 75, 3) := by decide +kernel
theorem dX6_looksTheSame_11 : decode cX6_looksTheSame 11 = .ok (.invokestatic 79, 3) := by decide +kernel
theorem dX6_looksTheSame_14 : decode cX6_looksTheSame 14 = .ok (.iconst 1, 1) := by decide +kernel
theorem dX6_looksTheSame_15 : decode cX6_looksTheSame 15 = .ok (.if_icmp .ne 7, 3) := by decide +kernel
theorem dX6_looksTheSame_18 : decode cX6_looksTheSame 18 = .ok (.iconst 1, 1) := by decide +kernel
theorem dX6_looksTheSame_19 : decode cX6_looksTheSame 19 = .ok (.goto 4, 3) := by decide +kernel
theorem dX6_looksTheSame_22 : decode cX6_looksTheSame 22 = .ok (.iconst 0, 1) := by decide +kernel
theorem dX6_looksTheSame_23 : decode cX6_looksTheSame 23 = .ok (.ireturn, 1) := by decide +kernel
theorem dX6_smearedPlaces_0 : decode cX6_smearedPlaces 0 = .ok (.aload_n 0, 1) := by decide +kernel
theorem dX6_smearedPlaces_1 : decode cX6_smearedPlaces 1 = .ok (.aload_n 0, 1) := by decide +kernel
theorem dX6_smearedPlaces_2 : decode cX6_smearedPlaces 2 = .ok (.getfield 21, 3) := by decide +kernel
theorem dX6_smearedPlaces_5 : decode cX6_smearedPlaces 5 = .ok (.iload_n 1, 1) := by decide +kernel
theorem dX6_smearedPlaces_6 : decode cX6_smearedPlaces 6 = .ok (.iload_n 2, 1) := by decide +kernel
theorem dX6_smearedPlaces_7 : decode cX6_smearedPlaces 7 = .ok (.iconst 1, 1) := by decide +kernel
theorem dX6_smearedPlaces_8 : decode cX6_smearedPlaces 8 = .ok (.invokevirtual 75, 3) := by decide +kernel
theorem dX6_smearedPlaces_11 : decode cX6_smearedPlaces 11 = .ok (.lstore_n 3, 1) := by decide +kernel
theorem dX6_smearedPlaces_12 : decode cX6_smearedPlaces 12 = .ok (.iconst 0, 1) := by decide +kernel
theorem dX6_smearedPlaces_13 : decode cX6_smearedPlaces 13 = .ok (.istore 5, 2) := by decide +kernel
theorem dX6_smearedPlaces_15 : decode cX6_smearedPlaces 15 = .ok (.iconst 0, 1) := by decide +kernel
theorem dX6_smearedPlaces_16 : decode cX6_smearedPlaces 16 = .ok (.istore 6, 2) := by decide +kernel
theorem dX6_smearedPlaces_18 : decode cX6_smearedPlaces 18 = .ok (.iload 6, 2) := by decide +kernel
theorem dX6_smearedPlaces_20 : decode cX6_smearedPlaces 20 = .ok (.aload_n 0, 1) := by decide +kernel
theorem dX6_smearedPlaces_21 : decode cX6_smearedPlaces 21 = .ok (.getfield 21, 3) := by decide +kernel
theorem dX6_smearedPlaces_24 : decode cX6_smearedPlaces 24 = .ok (.if_icmp .ge 26, 3) := by decide +kernel
theorem dX6_smearedPlaces_27 : decode cX6_smearedPlaces 27 = .ok (.aload_n 0, 1) := by decide +kernel
theorem dX6_smearedPlaces_28 : decode cX6_smearedPlaces 28 = .ok (.iload 6, 2) := by decide +kernel
theorem dX6_smearedPlaces_30 : decode cX6_smearedPlaces 30 = .ok (.lload_n 3, 1) := by decide +kernel
theorem dX6_smearedPlaces_31 : decode cX6_smearedPlaces 31 = .ok (.invokevirtual 85, 3) := by decide +kernel
theorem dX6_smearedPlaces_34 : decode cX6_smearedPlaces 34 = .ok (.invokestatic 89, 3) := by decide +kernel
theorem dX6_smearedPlaces_37 : decode cX6_smearedPlaces 37 = .ok (.iconst 1, 1) := by decide +kernel
theorem dX6_smearedPlaces_38 : decode cX6_smearedPlaces 38 = .ok (.if_icmp .le 6, 3) := by decide +kernel
theorem dX6_smearedPlaces_41 : decode cX6_smearedPlaces 41 = .ok (.iinc 5 1, 3) := by decide +kernel
theorem dX6_smearedPlaces_44 : decode cX6_smearedPlaces 44 = .ok (.iinc 6 1, 3) := by decide +kernel
theorem dX6_smearedPlaces_47 : decode cX6_smearedPlaces 47 = .ok (.goto (-29), 3) := by decide +kernel
theorem dX6_smearedPlaces_50 : decode cX6_smearedPlaces 50 = .ok (.iload 5, 2) := by decide +kernel
theorem dX6_smearedPlaces_52 : decode cX6_smearedPlaces 52 = .ok (.ireturn, 1) := by decide +kernel
theorem dX6_marksPassing_0 : decode cX6_marksPassing 0 = .ok (.iconst 0, 1) := by decide +kernel
theorem dX6_marksPassing_1 : decode cX6_marksPassing 1 = .ok (.istore 4, 2) := by decide +kernel
theorem dX6_marksPassing_3 : decode cX6_marksPassing 3 = .ok (.iconst 0, 1) := by decide +kernel
theorem dX6_marksPassing_4 : decode cX6_marksPassing 4 = .ok (.istore 5, 2) := by decide +kernel
theorem dX6_marksPassing_6 : decode cX6_marksPassing 6 = .ok (.iload 5, 2) := by decide +kernel
theorem dX6_marksPassing_8 : decode cX6_marksPassing 8 = .ok (.aload_n 0, 1) := by decide +kernel
theorem dX6_marksPassing_9 : decode cX6_marksPassing 9 = .ok (.getfield 21, 3) := by decide +kernel
theorem dX6_marksPassing_12 : decode cX6_marksPassing 12 = .ok (.if_icmp .ge 40, 3) := by decide +kernel
theorem dX6_marksPassing_15 : decode cX6_marksPassing 15 = .ok (.lload_n 2, 1) := by decide +kernel
theorem dX6_marksPassing_16 : decode cX6_marksPassing 16 = .ok (.iload 5, 2) := by decide +kernel
theorem dX6_marksPassing_18 : decode cX6_marksPassing 18 = .ok (.invokestatic 93, 3) := by decide +kernel
theorem dX6_marksPassing_21 : decode cX6_marksPassing 21 = .ok (.ifCond .eq 25, 3) := by decide +kernel
theorem dX6_marksPassing_24 : decode cX6_marksPassing 24 = .ok (.iload 4, 2) := by decide +kernel
theorem dX6_marksPassing_26 : decode cX6_marksPassing 26 = .ok (.iconst 1, 1) := by decide +kernel
theorem dX6_marksPassing_27 : decode cX6_marksPassing 27 = .ok (.aload_n 0, 1) := by decide +kernel
theorem dX6_marksPassing_28 : decode cX6_marksPassing 28 = .ok (.iload_n 1, 1) := by decide +kernel
theorem dX6_marksPassing_29 : decode cX6_marksPassing 29 = .ok (.iload 5, 2) := by decide +kernel
theorem dX6_marksPassing_31 : decode cX6_marksPassing 31 = .ok (.isub, 1) := by decide +kernel
theorem dX6_marksPassing_32 : decode cX6_marksPassing 32 = .ok (.aload_n 0, 1) := by decide +kernel
theorem dX6_marksPassing_33 : decode cX6_marksPassing 33 = .ok (.getfield 21, 3) := by decide +kernel
theorem dX6_marksPassing_36 : decode cX6_marksPassing 36 = .ok (.invokestatic 50, 3) := by decide +kernel
theorem dX6_marksPassing_39 : decode cX6_marksPassing 39 = .ok (.invokevirtual 46, 3) := by decide +kernel
theorem dX6_marksPassing_42 : decode cX6_marksPassing 42 = .ok (.ishl, 1) := by decide +kernel
theorem dX6_marksPassing_43 : decode cX6_marksPassing 43 = .ok (.ior, 1) := by decide +kernel
theorem dX6_marksPassing_44 : decode cX6_marksPassing 44 = .ok (.istore 4, 2) := by decide +kernel
theorem dX6_marksPassing_46 : decode cX6_marksPassing 46 = .ok (.iinc 5 1, 3) := by decide +kernel
theorem dX6_marksPassing_49 : decode cX6_marksPassing 49 = .ok (.goto (-43), 3) := by decide +kernel
theorem dX6_marksPassing_52 : decode cX6_marksPassing 52 = .ok (.iload 4, 2) := by decide +kernel
theorem dX6_marksPassing_54 : decode cX6_marksPassing 54 = .ok (.iconst 1, 1) := by decide +kernel
theorem dX6_marksPassing_55 : decode cX6_marksPassing 55 = .ok (.ishr, 1) := by decide +kernel
theorem dX6_marksPassing_56 : decode cX6_marksPassing 56 = .ok (.ireturn, 1) := by decide +kernel
theorem dX7_init_0 : decode cX7_init 0 = .ok (.aload_n 0, 1) := by decide +kernel
theorem dX7_init_1 : decode cX7_init 1 = .ok (.invokespecial 3, 3) := by decide +kernel
theorem dX7_init_4 : decode cX7_init 4 = .ok (.aload_n 0, 1) := by decide +kernel
theorem dX7_init_5 : decode cX7_init 5 = .ok (.bipush 80, 2) := by decide +kernel
theorem dX7_init_7 : decode cX7_init 7 = .ok (.newarray .int, 2) := by decide +kernel
theorem dX7_init_9 : decode cX7_init 9 = .ok (.putfield 9, 3) := by decide +kernel
theorem dX7_init_12 : decode cX7_init 12 = .ok (.aload_n 0, 1) := by decide +kernel
theorem dX7_init_13 : decode cX7_init 13 = .ok (.iconst 0, 1) := by decide +kernel
theorem dX7_init_14 : decode cX7_init 14 = .ok (.putfield 15, 3) := by decide +kernel
theorem dX7_init_17 : decode cX7_init 17 = .ok (.return_, 1) := by decide +kernel
theorem dX7_append_0 : decode cX7_append 0 = .ok (.aload_n 0, 1) := by decide +kernel
theorem dX7_append_1 : decode cX7_append 1 = .ok (.getfield 9, 3) := by decide +kernel
theorem dX7_append_4 : decode cX7_append 4 = .ok (.aload_n 0, 1) := by decide +kernel
theorem dX7_append_5 : decode cX7_append 5 = .ok (.getfield 19, 3) := by decide +kernel
theorem dX7_append_8 : decode cX7_append 8 = .ok (.iload_n 1, 1) := by decide +kernel
theorem dX7_append_9 : decode cX7_append 9 = .ok (.invokestatic 22, 3) := by decide +kernel
theorem dX7_append_12 : decode cX7_append 12 = .ok (.aload_n 0, 1) := by decide +kernel
theorem dX7_append_13 : decode cX7_append 13 = .ok (.dup, 1) := by decide +kernel
theorem dX7_append_14 : decode cX7_append 14 = .ok (.getfield 19, 3) := by decide +kernel
theorem dX7_append_17 : decode cX7_append 17 = .ok (.iconst 1, 1) := by decide +kernel
theorem dX7_append_18 : decode cX7_append 18 = .ok (.iadd, 1) := by decide +kernel
theorem dX7_append_19 : decode cX7_append 19 = .ok (.putfield 19, 3) := by decide +kernel
theorem dX7_append_22 : decode cX7_append 22 = .ok (.return_, 1) := by decide +kernel
theorem dX7_readInto_0 : decode cX7_readInto 0 = .ok (.aload_n 0, 1) := by decide +kernel
theorem dX7_readInto_1 : decode cX7_readInto 1 = .ok (.iconst 0, 1) := by decide +kernel
theorem dX7_readInto_2 : decode cX7_readInto 2 = .ok (.putfield 26, 3) := by decide +kernel
theorem dX7_readInto_5 : decode cX7_readInto 5 = .ok (.aload_n 0, 1) := by decide +kernel
theorem dX7_readInto_6 : decode cX7_readInto 6 = .ok (.iconst 0, 1) := by decide +kernel
theorem dX7_readInto_7 : decode cX7_readInto 7 = .ok (.putfield 15, 3) := by decide +kernel
theorem dX7_readInto_10 : decode cX7_readInto 10 = .ok (.aload_n 1, 1) := by decide +kernel
theorem dX7_readInto_11 : decode cX7_readInto 11 = .ok (.invokevirtual 29, 3) := by decide +kernel
theorem dX7_readInto_14 : decode cX7_readInto 14 = .ok (.aload_n 0, 1) := by decide +kernel
theorem dX7_readInto_15 : decode cX7_readInto 15 = .ok (.aload_n 1, 1) := by decide +kernel
theorem dX7_readInto_16 : decode cX7_readInto 16 = .ok (.invokevirtual 34, 3) := by decide +kernel
theorem dX7_readInto_19 : decode cX7_readInto 19 = .ok (.aload_n 0, 1) := by decide +kernel
theorem dX7_readInto_20 : decode cX7_readInto 20 = .ok (.getfield 15, 3) := by decide +kernel
theorem dX7_readInto_23 : decode cX7_readInto 23 = .ok (.ifCond .ne 23, 3) := by decide +kernel
theorem dX7_readInto_26 : decode cX7_readInto 26 = .ok (.aload_n 0, 1) := by decide +kernel
theorem dX7_readInto_27 : decode cX7_readInto 27 = .ok (.bipush 64, 2) := by decide +kernel
theorem dX7_readInto_29 : decode cX7_readInto 29 = .ok (.invokevirtual 38, 3) := by decide +kernel
theorem dX7_readInto_32 : decode cX7_readInto 32 = .ok (.ifCond .eq 14, 3) := by decide +kernel
theorem dX7_readInto_35 : decode cX7_readInto 35 = .ok (.aload_n 1, 1) := by decide +kernel
theorem dX7_readInto_36 : decode cX7_readInto 36 = .ok (.aload_n 0, 1) := by decide +kernel
theorem dX7_readInto_37 : decode cX7_readInto 37 = .ok (.iconst 2, 1) := by decide +kernel
theorem dX7_readInto_38 : decode cX7_readInto 38 = .ok (.bipush 59, 2) := by decide +kernel
theorem dX7_readInto_40 : decode cX7_readInto 40 = .ok (.invokevirtual 42, 3) := by decide +kernel
theorem dX7_readInto_43 : decode cX7_readInto 43 = .ok (.putfield 46, 3) := by decide +kernel
theorem dX7_readInto_46 : decode cX7_readInto 46 = .ok (.aload_n 0, 1) := by decide +kernel
theorem dX7_readInto_47 : decode cX7_readInto 47 = .ok (.getfield 15, 3) := by decide +kernel
theorem dX7_readInto_50 : decode cX7_readInto 50 = .ok (.ifCond .ne 20, 3) := by decide +kernel
theorem dX7_readInto_53 : decode cX7_readInto 53 = .ok (.aload_n 0, 1) := by decide +kernel
theorem dX7_readInto_54 : decode cX7_readInto 54 = .ok (.bipush 42, 2) := by decide +kernel
theorem dX7_readInto_56 : decode cX7_readInto 56 = .ok (.invokevirtual 38, 3) := by decide +kernel
theorem dX7_readInto_59 : decode cX7_readInto 59 = .ok (.ifCond .eq 11, 3) := by decide +kernel
theorem dX7_readInto_62 : decode cX7_readInto 62 = .ok (.aload_n 1, 1) := by decide +kernel
theorem dX7_readInto_63 : decode cX7_readInto 63 = .ok (.aload_n 0, 1) := by decide +kernel
theorem dX7_readInto_64 : decode cX7_readInto 64 = .ok (.invokevirtual 49, 3) := by decide +kernel
theorem dX7_readInto_67 : decode cX7_readInto 67 = .ok (.putfield 53, 3) := by decide +kernel
theorem dX7_readInto_70 : decode cX7_readInto 70 = .ok (.aload_n 0, 1) := by decide +kernel
theorem dX7_readInto_71 : decode cX7_readInto 71 = .ok (.getfield 15, 3) := by decide +kernel
theorem dX7_readInto_74 : decode cX7_readInto 74 = .ok (.ifCond .ne 23, 3) := by decide +kernel
theorem dX7_readInto_77 : decode cX7_readInto 77 = .ok (.aload_n 0, 1) := by decide +kernel
theorem dX7_readInto_78 : decode cX7_readInto 78 = .ok (.getfield 26, 3) := by decide +kernel
theorem dX7_readInto_81 : decode cX7_readInto 81 = .ok (.aload_n 0, 1) := by decide +kernel
theorem dX7_readInto_82 : decode cX7_readInto 82 = .ok (.getfield 19, 3) := by decide +kernel
theorem dX7_readInto_85 : decode cX7_readInto 85 = .ok (.if_icmp .ge 12, 3) := by decide +kernel
theorem dX7_readInto_88 : decode cX7_readInto 88 = .ok (.aload_n 0, 1) := by decide +kernel
theorem dX7_readInto_89 : decode cX7_readInto 89 = .ok (.iconst 1, 1) := by decide +kernel
theorem dX7_readInto_90 : decode cX7_readInto 90 = .ok (.aload_n 0, 1) := by decide +kernel
theorem dX7_readInto_91 : decode cX7_readInto 91 = .ok (.getfield 26, 3) := by decide +kernel
theorem dX7_readInto_94 : decode cX7_readInto 94 = .ok (.invokevirtual 56, 3) := by decide +kernel
theorem dX7_readInto_97 : decode cX7_readInto 97 = .ok (.aload_n 0, 1) := by decide +kernel
theorem dX7_readInto_98 : decode cX7_readInto 98 = .ok (.getfield 15, 3) := by decide +kernel
theorem dX7_readInto_101 : decode cX7_readInto 101 = .ok (.ifCond .ne 7, 3) := by decide +kernel
theorem dX7_readInto_104 : decode cX7_readInto 104 = .ok (.iconst 1, 1) := by decide +kernel
theorem dX7_readInto_105 : decode cX7_readInto 105 = .ok (.goto 4, 3) := by decide +kernel
theorem dX7_readInto_108 : decode cX7_readInto 108 = .ok (.iconst 0, 1) := by decide +kernel
theorem dX7_readInto_109 : decode cX7_readInto 109 = .ok (.ireturn, 1) := by decide +kernel
theorem dX7_readCells_0 : decode cX7_readCells 0 = .ok (.aload_n 0, 1) := by decide +kernel
theorem dX7_readCells_1 : decode cX7_readCells 1 = .ok (.getfield 26, 3) := by decide +kernel
theorem dX7_readCells_4 : decode cX7_readCells 4 = .ok (.aload_n 0, 1) := by decide +kernel
theorem dX7_readCells_5 : decode cX7_readCells 5 = .ok (.getfield 19, 3) := by decide +kernel
theorem dX7_readCells_8 : decode cX7_readCells 8 = .ok (.if_icmp .ge 61, 3) := by decide +kernel
theorem dX7_readCells_11 : decode cX7_readCells 11 = .ok (.aload_n 1, 1) := by decide +kernel
theorem dX7_readCells_12 : decode cX7_readCells 12 = .ok (.getfield 60, 3) := by decide +kernel
theorem dX7_readCells_15 : decode cX7_readCells 15 = .ok (.bipush 60, 2) := by decide +kernel
theorem dX7_readCells_17 : decode cX7_readCells 17 = .ok (.if_icmp .ge 52, 3) := by decide +kernel
theorem dX7_readCells_20 : decode cX7_readCells 20 = .ok (.aload_n 0, 1) := by decide +kernel
theorem dX7_readCells_21 : decode cX7_readCells 21 = .ok (.invokevirtual 63, 3) := by decide +kernel
theorem dX7_readCells_24 : decode cX7_readCells 24 = .ok (.invokestatic 66, 3) := by decide +kernel
theorem dX7_readCells_27 : decode cX7_readCells 27 = .ok (.ifCond .eq 42, 3) := by decide +kernel
theorem dX7_readCells_30 : decode cX7_readCells 30 = .ok (.aload_n 1, 1) := by decide +kernel
theorem dX7_readCells_31 : decode cX7_readCells 31 = .ok (.aload_n 0, 1) := by decide +kernel
theorem dX7_readCells_32 : decode cX7_readCells 32 = .ok (.invokevirtual 63, 3) := by decide +kernel
theorem dX7_readCells_35 : decode cX7_readCells 35 = .ok (.bipush 46, 2) := by decide +kernel
theorem dX7_readCells_37 : decode cX7_readCells 37 = .ok (.if_icmp .ne 7, 3) := by decide +kernel
theorem dX7_readCells_40 : decode cX7_readCells 40 = .ok (.iconst 0, 1) := by decide +kernel
theorem dX7_readCells_41 : decode cX7_readCells 41 = .ok (.goto 12, 3) := by decide +kernel
theorem dX7_readCells_44 : decode cX7_readCells 44 = .ok (.aload_n 0, 1) := by decide +kernel
theorem dX7_readCells_45 : decode cX7_readCells 45 = .ok (.invokevirtual 63, 3) := by decide +kernel
theorem dX7_readCells_48 : decode cX7_readCells 48 = .ok (.bipush 97, 2) := by decide +kernel
theorem dX7_readCells_50 : decode cX7_readCells 50 = .ok (.isub, 1) := by decide +kernel
theorem dX7_readCells_51 : decode cX7_readCells 51 = .ok (.iconst 1, 1) := by decide +kernel
theorem dX7_readCells_52 : decode cX7_readCells 52 = .ok (.iadd, 1) := by decide +kernel
theorem dX7_readCells_53 : decode cX7_readCells 53 = .ok (.invokevirtual 69, 3) := by decide +kernel
theorem dX7_readCells_56 : decode cX7_readCells 56 = .ok (.aload_n 0, 1) := by decide +kernel
theorem dX7_readCells_57 : decode cX7_readCells 57 = .ok (.dup, 1) := by decide +kernel
theorem dX7_readCells_58 : decode cX7_readCells 58 = .ok (.getfield 26, 3) := by decide +kernel
theorem dX7_readCells_61 : decode cX7_readCells 61 = .ok (.iconst 1, 1) := by decide +kernel
theorem dX7_readCells_62 : decode cX7_readCells 62 = .ok (.iadd, 1) := by decide +kernel
theorem dX7_readCells_63 : decode cX7_readCells 63 = .ok (.putfield 26, 3) := by decide +kernel
theorem dX7_readCells_66 : decode cX7_readCells 66 = .ok (.goto (-66), 3) := by decide +kernel
theorem dX7_readCells_69 : decode cX7_readCells 69 = .ok (.aload_n 1, 1) := by decide +kernel
theorem dX7_readCells_70 : decode cX7_readCells 70 = .ok (.getfield 60, 3) := by decide +kernel
theorem dX7_readCells_73 : decode cX7_readCells 73 = .ok (.ifCond .ne 12, 3) := by decide +kernel
theorem dX7_readCells_76 : decode cX7_readCells 76 = .ok (.aload_n 0, 1) := by decide +kernel
theorem dX7_readCells_77 : decode cX7_readCells 77 = .ok (.iconst 1, 1) := by decide +kernel
theorem dX7_readCells_78 : decode cX7_readCells 78 = .ok (.aload_n 0, 1) := by decide +kernel
theorem dX7_readCells_79 : decode cX7_readCells 79 = .ok (.getfield 26, 3) := by decide +kernel
theorem dX7_readCells_82 : decode cX7_readCells 82 = .ok (.invokevirtual 56, 3) := by decide +kernel
theorem dX7_readCells_85 : decode cX7_readCells 85 = .ok (.return_, 1) := by decide +kernel
theorem dX7_readSpeed_0 : decode cX7_readSpeed 0 = .ok (.aload_n 0, 1) := by decide +kernel
theorem dX7_readSpeed_1 : decode cX7_readSpeed 1 = .ok (.bipush 45, 2) := by decide +kernel
theorem dX7_readSpeed_3 : decode cX7_readSpeed 3 = .ok (.invokevirtual 38, 3) := by decide +kernel
theorem dX7_readSpeed_6 : decode cX7_readSpeed 6 = .ok (.ifCond .eq 15, 3) := by decide +kernel
theorem dX7_readSpeed_9 : decode cX7_readSpeed 9 = .ok (.aload_n 0, 1) := by decide +kernel
theorem dX7_readSpeed_10 : decode cX7_readSpeed 10 = .ok (.iconst 4, 1) := by decide +kernel
theorem dX7_readSpeed_11 : decode cX7_readSpeed 11 = .ok (.sipush 1000, 3) := by decide +kernel
theorem dX7_readSpeed_14 : decode cX7_readSpeed 14 = .ok (.invokevirtual 42, 3) := by decide +kernel
theorem dX7_readSpeed_17 : decode cX7_readSpeed 17 = .ok (.ineg, 1) := by decide +kernel
theorem dX7_readSpeed_18 : decode cX7_readSpeed 18 = .ok (.goto 11, 3) := by decide +kernel
theorem dX7_readSpeed_21 : decode cX7_readSpeed 21 = .ok (.aload_n 0, 1) := by decide +kernel
theorem dX7_readSpeed_22 : decode cX7_readSpeed 22 = .ok (.iconst 4, 1) := by decide +kernel
theorem dX7_readSpeed_23 : decode cX7_readSpeed 23 = .ok (.sipush 1000, 3) := by decide +kernel
theorem dX7_readSpeed_26 : decode cX7_readSpeed 26 = .ok (.invokevirtual 42, 3) := by decide +kernel
theorem dX7_readSpeed_29 : decode cX7_readSpeed 29 = .ok (.ireturn, 1) := by decide +kernel
theorem dX7_readNumber_0 : decode cX7_readNumber 0 = .ok (.aload_n 0, 1) := by decide +kernel
theorem dX7_readNumber_1 : decode cX7_readNumber 1 = .ok (.getfield 26, 3) := by decide +kernel
theorem dX7_readNumber_4 : decode cX7_readNumber 4 = .ok (.istore_n 3, 1) := by decide +kernel
theorem dX7_readNumber_5 : decode cX7_readNumber 5 = .ok (.iconst 0, 1) := by decide +kernel
theorem dX7_readNumber_6 : decode cX7_readNumber 6 = .ok (.istore 4, 2) := by decide +kernel
theorem dX7_readNumber_8 : decode cX7_readNumber 8 = .ok (.aload_n 0, 1) := by decide +kernel
theorem dX7_readNumber_9 : decode cX7_readNumber 9 = .ok (.invokevirtual 63, 3) := by decide +kernel
theorem dX7_readNumber_12 : decode cX7_readNumber 12 = .ok (.invokestatic 73, 3) := by decide +kernel
theorem dX7_readNumber_15 : decode cX7_readNumber 15 = .ok (.ifCond .eq 41, 3) := by decide +kernel
theorem dX7_readNumber_18 : decode cX7_readNumber 18 = .ok (.aload_n 0, 1) := by decide +kernel
theorem dX7_readNumber_19 : decode cX7_readNumber 19 = .ok (.getfield 26, 3) := by decide +kernel
theorem dX7_readNumber_22 : decode cX7_readNumber 22 = .ok (.iload_n 3, 1) := by decide +kernel
theorem dX7_readNumber_23 : decode cX7_readNumber 23 = .ok (.isub, 1) := by decide +kernel
theorem dX7_readNumber_24 : decode cX7_readNumber 24 = .ok (.iload_n 1, 1) := by decide +kernel
theorem dX7_readNumber_25 : decode cX7_readNumber 25 = .ok (.if_icmp .ge 31, 3) := by decide +kernel
theorem dX7_readNumber_28 : decode cX7_readNumber 28 = .ok (.bipush 10, 2) := by decide +kernel
theorem dX7_readNumber_30 : decode cX7_readNumber 30 = .ok (.iload 4, 2) := by decide +kernel
theorem dX7_readNumber_32 : decode cX7_readNumber 32 = .ok (.imul, 1) := by decide +kernel
theorem dX7_readNumber_33 : decode cX7_readNumber 33 = .ok (.aload_n 0, 1) := by decide +kernel
theorem dX7_readNumber_34 : decode cX7_readNumber 34 = .ok (.invokevirtual 63, 3) := by decide +kernel
theorem dX7_readNumber_37 : decode cX7_readNumber 37 = .ok (.iadd, 1) := by decide +kernel
theorem dX7_readNumber_38 : decode cX7_readNumber 38 = .ok (.bipush 48, 2) := by decide +kernel
theorem dX7_readNumber_40 : decode cX7_readNumber 40 = .ok (.isub, 1) := by decide +kernel
theorem dX7_readNumber_41 : decode cX7_readNumber 41 = .ok (.istore 4, 2) := by decide +kernel
theorem dX7_readNumber_43 : decode cX7_readNumber 43 = .ok (.aload_n 0, 1) := by decide +kernel
theorem dX7_readNumber_44 : decode cX7_readNumber 44 = .ok (.dup, 1) := by decide +kernel
theorem dX7_readNumber_45 : decode cX7_readNumber 45 = .ok (.getfield 26, 3) := by decide +kernel
theorem dX7_readNumber_48 : decode cX7_readNumber 48 = .ok (.iconst 1, 1) := by decide +kernel
theorem dX7_readNumber_49 : decode cX7_readNumber 49 = .ok (.iadd, 1) := by decide +kernel
theorem dX7_readNumber_50 : decode cX7_readNumber 50 = .ok (.putfield 26, 3) := by decide +kernel
theorem dX7_readNumber_53 : decode cX7_readNumber 53 = .ok (.goto (-45), 3) := by decide +kernel
theorem dX7_readNumber_56 : decode cX7_readNumber 56 = .ok (.aload_n 0, 1) := by decide +kernel
theorem dX7_readNumber_57 : decode cX7_readNumber 57 = .ok (.getfield 26, 3) := by decide +kernel
theorem dX7_readNumber_60 : decode cX7_readNumber 60 = .ok (.iload_n 3, 1) := by decide +kernel
theorem dX7_readNumber_61 : decode cX7_readNumber 61 = .ok (.if_icmp .eq 13, 3) := by decide +kernel
theorem dX7_readNumber_64 : decode cX7_readNumber 64 = .ok (.aload_n 0, 1) := by decide +kernel
theorem dX7_readNumber_65 : decode cX7_readNumber 65 = .ok (.invokevirtual 63, 3) := by decide +kernel
theorem dX7_readNumber_68 : decode cX7_readNumber 68 = .ok (.invokestatic 73, 3) := by decide +kernel
theorem dX7_readNumber_71 : decode cX7_readNumber 71 = .ok (.ifCond .eq 15, 3) := by decide +kernel
theorem dX7_readNumber_74 : decode cX7_readNumber 74 = .ok (.aload_n 0, 1) := by decide +kernel
theorem dX7_readNumber_75 : decode cX7_readNumber 75 = .ok (.iconst 1, 1) := by decide +kernel
theorem dX7_readNumber_76 : decode cX7_readNumber 76 = .ok (.aload_n 0, 1) := by decide +kernel
theorem dX7_readNumber_77 : decode cX7_readNumber 77 = .ok (.getfield 26, 3) := by decide +kernel
theorem dX7_readNumber_80 : decode cX7_readNumber 80 = .ok (.invokevirtual 56, 3) := by decide +kernel
theorem dX7_readNumber_83 : decode cX7_readNumber 83 = .ok (.goto 15, 3) := by decide +kernel
theorem dX7_readNumber_86 : decode cX7_readNumber 86 = .ok (.iload 4, 2) := by decide +kernel
theorem dX7_readNumber_88 : decode cX7_readNumber 88 = .ok (.iload_n 2, 1) := by decide +kernel
theorem dX7_readNumber_89 : decode cX7_readNumber 89 = .ok (.if_icmp .le 9, 3) := by decide +kernel
theorem dX7_readNumber_92 : decode cX7_readNumber 92 = .ok (.aload_n 0, 1) := by decide +kernel
theorem dX7_readNumber_93 : decode cX7_readNumber 93 = .ok (.iconst 2, 1) := by decide +kernel
theorem dX7_readNumber_94 : decode cX7_readNumber 94 = .ok (.iload_n 3, 1) := by decide +kernel
theorem dX7_readNumber_95 : decode cX7_readNumber 95 = .ok (.invokevirtual 56, 3) := by decide +kernel
theorem dX7_readNumber_98 : decode cX7_readNumber 98 = .ok (.iload 4, 2) := by decide +kernel
theorem dX7_readNumber_100 : decode cX7_readNumber 100 = .ok (.ireturn, 1) := by decide +kernel
theorem dX7_takes_0 : decode cX7_takes 0 = .ok (.aload_n 0, 1) := by decide +kernel
theorem dX7_takes_1 : decode cX7_takes 1 = .ok (.invokevirtual 63, 3) := by decide +kernel
theorem dX7_takes_4 : decode cX7_takes 4 = .ok (.iload_n 1, 1) := by decide +kernel
theorem dX7_takes_5 : decode cX7_takes 5 = .ok (.if_icmp .eq 5, 3) := by decide +kernel
theorem dX7_takes_8 : decode cX7_takes 8 = .ok (.iconst 0, 1) := by decide +kernel
theorem dX7_takes_9 : decode cX7_takes 9 = .ok (.ireturn, 1) := by decide +kernel
theorem dX7_takes_10 : decode cX7_takes 10 = .ok (.aload_n 0, 1) := by decide +kernel
theorem dX7_takes_11 : decode cX7_takes 11 = .ok (.dup, 1) := by decide +kernel
theorem dX7_takes_12 : decode cX7_takes 12 = .ok (.getfield 26, 3) := by decide +kernel
theorem dX7_takes_15 : decode cX7_takes 15 = .ok (.iconst 1, 1) := by decide +kernel
theorem dX7_takes_16 : decode cX7_takes 16 = .ok (.iadd, 1) := by decide +kernel
theorem dX7_takes_17 : decode cX7_takes 17 = .ok (.putfield 26, 3) := by decide +kernel
theorem dX7_takes_20 : decode cX7_takes 20 = .ok (.iconst 1, 1) := by decide +kernel
theorem dX7_takes_21 : decode cX7_takes 21 = .ok (.ireturn, 1) := by decide +kernel
theorem dX7_code_0 : decode cX7_code 0 = .ok (.aload_n 0, 1) := by decide +kernel
theorem dX7_code_1 : decode cX7_code 1 = .ok (.getfield 26, 3) := by decide +kernel
theorem dX7_code_4 : decode cX7_code 4 = .ok (.aload_n 0, 1) := by decide +kernel
theorem dX7_code_5 : decode cX7_code 5 = .ok (.getfield 19, 3) := by decide +kernel
theorem dX7_code_8 : decode cX7_code 8 = .ok (.if_icmp .ge 17, 3) := by decide +kernel
theorem dX7_code_11 : decode cX7_code 11 = .ok (.aload_n 0, 1) := by decide +kernel
theorem dX7_code_12 : decode cX7_code 12 = .ok (.getfield 9, 3) := by decide +kernel
theorem dX7_code_15 : decode cX7_code 15 = .ok (.aload_n 0, 1) := by decide +kernel
theorem dX7_code_16 : decode cX7_code 16 = .ok (.getfield 26, 3) := by decide +kernel
theorem dX7_code_19 : decode cX7_code 19 = .ok (.invokestatic 76, 3) := by decide +kernel
theorem dX7_code_22 : decode cX7_code 22 = .ok (.goto 4, 3) := by decide +kernel
theorem dX7_code_25 : decode cX7_code 25 = .ok (.iconst 0, 1) := by decide +kernel
theorem dX7_code_26 : decode cX7_code 26 = .ok (.ireturn, 1) := by decide +kernel
theorem dX7_tellFault_0 : decode cX7_tellFault 0 = .ok (.aload_n 0, 1) := by decide +kernel
theorem dX7_tellFault_1 : decode cX7_tellFault 1 = .ok (.iload_n 1, 1) := by decide +kernel
theorem dX7_tellFault_2 : decode cX7_tellFault 2 = .ok (.putfield 15, 3) := by decide +kernel
theorem dX7_tellFault_5 : decode cX7_tellFault 5 = .ok (.aload_n 0, 1) := by decide +kernel
theorem dX7_tellFault_6 : decode cX7_tellFault 6 = .ok (.iload_n 2, 1) := by decide +kernel
theorem dX7_tellFault_7 : decode cX7_tellFault 7 = .ok (.putfield 80, 3) := by decide +kernel
theorem dX7_tellFault_10 : decode cX7_tellFault 10 = .ok (.return_, 1) := by decide +kernel
theorem dX7_isCell_0 : decode cX7_isCell 0 = .ok (.iload_n 0, 1) := by decide +kernel
theorem dX7_isCell_1 : decode cX7_isCell 1 = .ok (.bipush 46, 2) := by decide +kernel
theorem dX7_isCell_3 : decode cX7_isCell 3 = .ok (.if_icmp .eq 14, 3) := by decide +kernel
theorem dX7_isCell_6 : decode cX7_isCell 6 = .ok (.iload_n 0, 1) := by decide +kernel
theorem dX7_isCell_7 : decode cX7_isCell 7 = .ok (.bipush 97, 2) := by decide +kernel
theorem dX7_isCell_9 : decode cX7_isCell 9 = .ok (.bipush 99, 2) := by decide +kernel
theorem dX7_isCell_11 : decode cX7_isCell 11 = .ok (.invokestatic 83, 3) := by decide +kernel
theorem dX7_isCell_14 : decode cX7_isCell 14 = .ok (.ifCond .eq 7, 3) := by decide +kernel
theorem dX7_isCell_17 : decode cX7_isCell 17 = .ok (.iconst 1, 1) := by decide +kernel
theorem dX7_isCell_18 : decode cX7_isCell 18 = .ok (.goto 4, 3) := by decide +kernel
theorem dX7_isCell_21 : decode cX7_isCell 21 = .ok (.iconst 0, 1) := by decide +kernel
theorem dX7_isCell_22 : decode cX7_isCell 22 = .ok (.ireturn, 1) := by decide +kernel
theorem dX7_isDigit_0 : decode cX7_isDigit 0 = .ok (.iload_n 0, 1) := by decide +kernel
theorem dX7_isDigit_1 : decode cX7_isDigit 1 = .ok (.bipush 48, 2) := by decide +kernel
theorem dX7_isDigit_3 : decode cX7_isDigit 3 = .ok (.bipush 57, 2) := by decide +kernel
theorem dX7_isDigit_5 : decode cX7_isDigit 5 = .ok (.invokestatic 83, 3) := by decide +kernel
theorem dX7_isDigit_8 : decode cX7_isDigit 8 = .ok (.ireturn, 1) := by decide +kernel
theorem dX8_init_0 : decode cX8_init 0 = .ok (.aload_n 0, 1) := by decide +kernel
theorem dX8_init_1 : decode cX8_init 1 = .ok (.invokespecial 1, 3) := by decide +kernel
theorem dX8_init_4 : decode cX8_init 4 = .ok (.aload_n 0, 1) := by decide +kernel
theorem dX8_init_5 : decode cX8_init 5 = .ok (.new 7, 3) := by decide +kernel
theorem dX8_init_8 : decode cX8_init 8 = .ok (.dup, 1) := by decide +kernel
theorem dX8_init_9 : decode cX8_init 9 = .ok (.invokespecial 9, 3) := by decide +kernel
theorem dX8_init_12 : decode cX8_init 12 = .ok (.putfield 10, 3) := by decide +kernel
theorem dX8_init_15 : decode cX8_init 15 = .ok (.aload_n 0, 1) := by decide +kernel
theorem dX8_init_16 : decode cX8_init 16 = .ok (.new 16, 3) := by decide +kernel
theorem dX8_init_19 : decode cX8_init 19 = .ok (.dup, 1) := by decide +kernel
theorem dX8_init_20 : decode cX8_init 20 = .ok (.invokespecial 18, 3) := by decide +kernel
theorem dX8_init_23 : decode cX8_init 23 = .ok (.putfield 19, 3) := by decide +kernel
theorem dX8_init_26 : decode cX8_init 26 = .ok (.aload_n 0, 1) := by decide +kernel
theorem dX8_init_27 : decode cX8_init 27 = .ok (.new 23, 3) := by decide +kernel
theorem dX8_init_30 : decode cX8_init 30 = .ok (.dup, 1) := by decide +kernel
theorem dX8_init_31 : decode cX8_init 31 = .ok (.invokespecial 25, 3) := by decide +kernel
theorem dX8_init_34 : decode cX8_init 34 = .ok (.putfield 26, 3) := by decide +kernel
theorem dX8_init_37 : decode cX8_init 37 = .ok (.aload_n 0, 1) := by decide +kernel
theorem dX8_init_38 : decode cX8_init 38 = .ok (.new 30, 3) := by decide +kernel
theorem dX8_init_41 : decode cX8_init 41 = .ok (.dup, 1) := by decide +kernel
theorem dX8_init_42 : decode cX8_init 42 = .ok (.invokespecial 32, 3) := by decide +kernel
theorem dX8_init_45 : decode cX8_init 45 = .ok (.putfield 33, 3) := by decide +kernel
theorem dX8_init_48 : decode cX8_init 48 = .ok (.aload_n 0, 1) := by decide +kernel
theorem dX8_init_49 : decode cX8_init 49 = .ok (.new 37, 3) := by decide +kernel
theorem dX8_init_52 : decode cX8_init 52 = .ok (.dup, 1) := by decide +kernel
theorem dX8_init_53 : decode cX8_init 53 = .ok (.invokespecial 39, 3) := by decide +kernel
theorem dX8_init_56 : decode cX8_init 56 = .ok (.putfield 40, 3) := by decide +kernel
theorem dX8_init_59 : decode cX8_init 59 = .ok (.return_, 1) := by decide +kernel
theorem dX8_type_0 : decode cX8_type 0 = .ok (.iload_n 1, 1) := by decide +kernel
theorem dX8_type_1 : decode cX8_type 1 = .ok (.bipush 32, 2) := by decide +kernel
theorem dX8_type_3 : decode cX8_type 3 = .ok (.bipush 126, 2) := by decide +kernel
theorem dX8_type_5 : decode cX8_type 5 = .ok (.invokestatic 44, 3) := by decide +kernel
theorem dX8_type_8 : decode cX8_type 8 = .ok (.ifCond .ne 7, 3) := by decide +kernel
theorem dX8_type_11 : decode cX8_type 11 = .ok (.sipush (-1001), 3) := by decide +kernel
theorem dX8_type_14 : decode cX8_type 14 = .ok (.ireturn, 1) := by decide +kernel
theorem dX8_type_15 : decode cX8_type 15 = .ok (.aload_n 0, 1) := by decide +kernel
theorem dX8_type_16 : decode cX8_type 16 = .ok (.getfield 26, 3) := by decide +kernel
theorem dX8_type_19 : decode cX8_type 19 = .ok (.getfield 48, 3) := by decide +kernel
theorem dX8_type_22 : decode cX8_type 22 = .ok (.bipush 80, 2) := by decide +kernel
theorem dX8_type_24 : decode cX8_type 24 = .ok (.if_icmp .lt 7, 3) := by decide +kernel
theorem dX8_type_27 : decode cX8_type 27 = .ok (.sipush (-1003), 3) := by decide +kernel
theorem dX8_type_30 : decode cX8_type 30 = .ok (.ireturn, 1) := by decide +kernel
theorem dX8_type_31 : decode cX8_type 31 = .ok (.aload_n 0, 1) := by decide +kernel
theorem dX8_type_32 : decode cX8_type 32 = .ok (.getfield 26, 3) := by decide +kernel
theorem dX8_type_35 : decode cX8_type 35 = .ok (.iload_n 1, 1) := by decide +kernel
theorem dX8_type_36 : decode cX8_type 36 = .ok (.invokevirtual 52, 3) := by decide +kernel
end
section
theorem dX8_type_39 : decode cX8_type 39 = .ok (.aload_n 0, 1) := by decide +kernel
theorem dX8_type_40 : decode cX8_type 40 = .ok (.getfield 26, 3) := by decide +kernel
theorem dX8_type_43 : decode cX8_type 43 = .ok (.getfield 48, 3) := by decide +kernel
theorem dX8_type_46 : decode cX8_type 46 = .ok (.ireturn, 1) := by decide +kernel
theorem dX8_clearText_0 : decode cX8_clearText 0 = .ok (.aload_n 0, 1) := by decide +kernel
theorem dX8_clearText_1 : decode cX8_clearText 1 = .ok (.getfield 26, 3) := by decide +kernel
theorem dX8_clearText_4 : decode cX8_clearText 4 = .ok (.getfield 48, 3) := by decide +kernel
theorem dX8_clearText_7 : decode cX8_clearText 7 = .ok (.istore_n 1, 1) := by decide +kernel
theorem dX8_clearText_8 : decode cX8_clearText 8 = .ok (.aload_n 0, 1) := by decide +kernel
theorem dX8_clearText_9 : decode cX8_clearText 9 = .ok (.getfield 26, 3) := by decide +kernel
theorem dX8_clearText_12 : decode cX8_clearText 12 = .ok (.iconst 0, 1) := by decide +kernel
theorem dX8_clearText_13 : decode cX8_clearText 13 = .ok (.putfield 48, 3) := by decide +kernel
theorem dX8_clearText_16 : decode cX8_clearText 16 = .ok (.iload_n 1, 1) := by decide +kernel
theorem dX8_clearText_17 : decode cX8_clearText 17 = .ok (.ireturn, 1) := by decide +kernel
theorem dX8_load_0 : decode cX8_load 0 = .ok (.aload_n 0, 1) := by decide +kernel
theorem dX8_load_1 : decode cX8_load 1 = .ok (.getfield 26, 3) := by decide +kernel
theorem dX8_load_4 : decode cX8_load 4 = .ok (.aload_n 0, 1) := by decide +kernel
theorem dX8_load_5 : decode cX8_load 5 = .ok (.getfield 33, 3) := by decide +kernel
theorem dX8_load_8 : decode cX8_load 8 = .ok (.invokevirtual 56, 3) := by decide +kernel
theorem dX8_load_11 : decode cX8_load 11 = .ok (.ifCond .ne 14, 3) := by decide +kernel
theorem dX8_load_14 : decode cX8_load 14 = .ok (.bipush (-10), 2) := by decide +kernel
theorem dX8_load_16 : decode cX8_load 16 = .ok (.aload_n 0, 1) := by decide +kernel
theorem dX8_load_17 : decode cX8_load 17 = .ok (.getfield 26, 3) := by decide +kernel
theorem dX8_load_20 : decode cX8_load 20 = .ok (.getfield 60, 3) := by decide +kernel
theorem dX8_load_23 : decode cX8_load 23 = .ok (.isub, 1) := by decide +kernel
theorem dX8_load_24 : decode cX8_load 24 = .ok (.ireturn, 1) := by decide +kernel
theorem dX8_load_25 : decode cX8_load 25 = .ok (.aload_n 0, 1) := by decide +kernel
theorem dX8_load_26 : decode cX8_load 26 = .ok (.getfield 19, 3) := by decide +kernel
theorem dX8_load_29 : decode cX8_load 29 = .ok (.aload_n 0, 1) := by decide +kernel
theorem dX8_load_30 : decode cX8_load 30 = .ok (.getfield 10, 3) := by decide +kernel
theorem dX8_load_33 : decode cX8_load 33 = .ok (.invokevirtual 63, 3) := by decide +kernel
theorem dX8_load_36 : decode cX8_load 36 = .ok (.aload_n 0, 1) := by decide +kernel
theorem dX8_load_37 : decode cX8_load 37 = .ok (.getfield 10, 3) := by decide +kernel
theorem dX8_load_40 : decode cX8_load 40 = .ok (.getfield 67, 3) := by decide +kernel
theorem dX8_load_43 : decode cX8_load 43 = .ok (.aload_n 0, 1) := by decide +kernel
theorem dX8_load_44 : decode cX8_load 44 = .ok (.getfield 33, 3) := by decide +kernel
theorem dX8_load_47 : decode cX8_load 47 = .ok (.invokevirtual 70, 3) := by decide +kernel
theorem dX8_load_50 : decode cX8_load 50 = .ok (.aload_n 0, 1) := by decide +kernel
theorem dX8_load_51 : decode cX8_load 51 = .ok (.getfield 10, 3) := by decide +kernel
theorem dX8_load_54 : decode cX8_load 54 = .ok (.getfield 67, 3) := by decide +kernel
theorem dX8_load_57 : decode cX8_load 57 = .ok (.getfield 74, 3) := by decide +kernel
theorem dX8_load_60 : decode cX8_load 60 = .ok (.ireturn, 1) := by decide +kernel
theorem dX8_faultKind_0 : decode cX8_faultKind 0 = .ok (.aload_n 0, 1) := by decide +kernel
theorem dX8_faultKind_1 : decode cX8_faultKind 1 = .ok (.getfield 26, 3) := by decide +kernel
theorem dX8_faultKind_4 : decode cX8_faultKind 4 = .ok (.getfield 77, 3) := by decide +kernel
theorem dX8_faultKind_7 : decode cX8_faultKind 7 = .ok (.ireturn, 1) := by decide +kernel
theorem dX8_setMark_0 : decode cX8_setMark 0 = .ok (.aload_n 0, 1) := by decide +kernel
theorem dX8_setMark_1 : decode cX8_setMark 1 = .ok (.iload_n 1, 1) := by decide +kernel
theorem dX8_setMark_2 : decode cX8_setMark 2 = .ok (.invokevirtual 80, 3) := by decide +kernel
theorem dX8_setMark_5 : decode cX8_setMark 5 = .ok (.ifCond .eq 12, 3) := by decide +kernel
theorem dX8_setMark_8 : decode cX8_setMark 8 = .ok (.iload_n 2, 1) := by decide +kernel
theorem dX8_setMark_9 : decode cX8_setMark 9 = .ok (.iconst 0, 1) := by decide +kernel
theorem dX8_setMark_10 : decode cX8_setMark 10 = .ok (.iconst 3, 1) := by decide +kernel
theorem dX8_setMark_11 : decode cX8_setMark 11 = .ok (.invokestatic 44, 3) := by decide +kernel
theorem dX8_setMark_14 : decode cX8_setMark 14 = .ok (.ifCond .ne 7, 3) := by decide +kernel
theorem dX8_setMark_17 : decode cX8_setMark 17 = .ok (.sipush (-1001), 3) := by decide +kernel
theorem dX8_setMark_20 : decode cX8_setMark 20 = .ok (.ireturn, 1) := by decide +kernel
theorem dX8_setMark_21 : decode cX8_setMark 21 = .ok (.aload_n 0, 1) := by decide +kernel
theorem dX8_setMark_22 : decode cX8_setMark 22 = .ok (.getfield 19, 3) := by decide +kernel
theorem dX8_setMark_25 : decode cX8_setMark 25 = .ok (.aload_n 0, 1) := by decide +kernel
theorem dX8_setMark_26 : decode cX8_setMark 26 = .ok (.getfield 10, 3) := by decide +kernel
theorem dX8_setMark_29 : decode cX8_setMark 29 = .ok (.invokevirtual 63, 3) := by decide +kernel
theorem dX8_setMark_32 : decode cX8_setMark 32 = .ok (.aload_n 0, 1) := by decide +kernel
theorem dX8_setMark_33 : decode cX8_setMark 33 = .ok (.getfield 10, 3) := by decide +kernel
theorem dX8_setMark_36 : decode cX8_setMark 36 = .ok (.getfield 67, 3) := by decide +kernel
theorem dX8_setMark_39 : decode cX8_setMark 39 = .ok (.iload_n 1, 1) := by decide +kernel
theorem dX8_setMark_40 : decode cX8_setMark 40 = .ok (.invokevirtual 84, 3) := by decide +kernel
theorem dX8_setMark_43 : decode cX8_setMark 43 = .ok (.istore_n 3, 1) := by decide +kernel
theorem dX8_setMark_44 : decode cX8_setMark 44 = .ok (.aload_n 0, 1) := by decide +kernel
theorem dX8_setMark_45 : decode cX8_setMark 45 = .ok (.getfield 10, 3) := by decide +kernel
theorem dX8_setMark_48 : decode cX8_setMark 48 = .ok (.getfield 67, 3) := by decide +kernel
theorem dX8_setMark_51 : decode cX8_setMark 51 = .ok (.getfield 88, 3) := by decide +kernel
theorem dX8_setMark_54 : decode cX8_setMark 54 = .ok (.iload_n 1, 1) := by decide +kernel
theorem dX8_setMark_55 : decode cX8_setMark 55 = .ok (.iload_n 2, 1) := by decide +kernel
theorem dX8_setMark_56 : decode cX8_setMark 56 = .ok (.invokestatic 92, 3) := by decide +kernel
theorem dX8_setMark_59 : decode cX8_setMark 59 = .ok (.iload_n 3, 1) := by decide +kernel
theorem dX8_setMark_60 : decode cX8_setMark 60 = .ok (.ireturn, 1) := by decide +kernel
theorem dX8_setStart_0 : decode cX8_setStart 0 = .ok (.iload_n 1, 1) := by decide +kernel
theorem dX8_setStart_1 : decode cX8_setStart 1 = .ok (.iconst 0, 1) := by decide +kernel
theorem dX8_setStart_2 : decode cX8_setStart 2 = .ok (.bipush 59, 2) := by decide +kernel
theorem dX8_setStart_4 : decode cX8_setStart 4 = .ok (.invokestatic 44, 3) := by decide +kernel
theorem dX8_setStart_7 : decode cX8_setStart 7 = .ok (.ifCond .ne 7, 3) := by decide +kernel
theorem dX8_setStart_10 : decode cX8_setStart 10 = .ok (.sipush (-1001), 3) := by decide +kernel
theorem dX8_setStart_13 : decode cX8_setStart 13 = .ok (.ireturn, 1) := by decide +kernel
theorem dX8_setStart_14 : decode cX8_setStart 14 = .ok (.aload_n 0, 1) := by decide +kernel
theorem dX8_setStart_15 : decode cX8_setStart 15 = .ok (.getfield 19, 3) := by decide +kernel
theorem dX8_setStart_18 : decode cX8_setStart 18 = .ok (.aload_n 0, 1) := by decide +kernel
theorem dX8_setStart_19 : decode cX8_setStart 19 = .ok (.getfield 10, 3) := by decide +kernel
theorem dX8_setStart_22 : decode cX8_setStart 22 = .ok (.invokevirtual 63, 3) := by decide +kernel
theorem dX8_setStart_25 : decode cX8_setStart 25 = .ok (.aload_n 0, 1) := by decide +kernel
theorem dX8_setStart_26 : decode cX8_setStart 26 = .ok (.getfield 10, 3) := by decide +kernel
theorem dX8_setStart_29 : decode cX8_setStart 29 = .ok (.getfield 67, 3) := by decide +kernel
theorem dX8_setStart_32 : decode cX8_setStart 32 = .ok (.getfield 96, 3) := by decide +kernel
theorem dX8_setStart_35 : decode cX8_setStart 35 = .ok (.istore_n 2, 1) := by decide +kernel
theorem dX8_setStart_36 : decode cX8_setStart 36 = .ok (.aload_n 0, 1) := by decide +kernel
theorem dX8_setStart_37 : decode cX8_setStart 37 = .ok (.getfield 10, 3) := by decide +kernel
theorem dX8_setStart_40 : decode cX8_setStart 40 = .ok (.getfield 67, 3) := by decide +kernel
theorem dX8_setStart_43 : decode cX8_setStart 43 = .ok (.iload_n 1, 1) := by decide +kernel
theorem dX8_setStart_44 : decode cX8_setStart 44 = .ok (.putfield 96, 3) := by decide +kernel
theorem dX8_setStart_47 : decode cX8_setStart 47 = .ok (.iload_n 2, 1) := by decide +kernel
theorem dX8_setStart_48 : decode cX8_setStart 48 = .ok (.ireturn, 1) := by decide +kernel
theorem dX8_setSpeed_0 : decode cX8_setSpeed 0 = .ok (.iload_n 1, 1) := by decide +kernel
theorem dX8_setSpeed_1 : decode cX8_setSpeed 1 = .ok (.invokestatic 99, 3) := by decide +kernel
theorem dX8_setSpeed_4 : decode cX8_setSpeed 4 = .ok (.ifCond .eq 16, 3) := by decide +kernel
theorem dX8_setSpeed_7 : decode cX8_setSpeed 7 = .ok (.iload_n 2, 1) := by decide +kernel
theorem dX8_setSpeed_8 : decode cX8_setSpeed 8 = .ok (.sipush (-1000), 3) := by decide +kernel
theorem dX8_setSpeed_11 : decode cX8_setSpeed 11 = .ok (.sipush 1000, 3) := by decide +kernel
theorem dX8_setSpeed_14 : decode cX8_setSpeed 14 = .ok (.invokestatic 44, 3) := by decide +kernel
theorem dX8_setSpeed_17 : decode cX8_setSpeed 17 = .ok (.ifCond .ne 7, 3) := by decide +kernel
theorem dX8_setSpeed_20 : decode cX8_setSpeed 20 = .ok (.sipush (-1001), 3) := by decide +kernel
theorem dX8_setSpeed_23 : decode cX8_setSpeed 23 = .ok (.ireturn, 1) := by decide +kernel
theorem dX8_setSpeed_24 : decode cX8_setSpeed 24 = .ok (.aload_n 0, 1) := by decide +kernel
theorem dX8_setSpeed_25 : decode cX8_setSpeed 25 = .ok (.getfield 10, 3) := by decide +kernel
theorem dX8_setSpeed_28 : decode cX8_setSpeed 28 = .ok (.getfield 67, 3) := by decide +kernel
theorem dX8_setSpeed_31 : decode cX8_setSpeed 31 = .ok (.iload_n 1, 1) := by decide +kernel
theorem dX8_setSpeed_32 : decode cX8_setSpeed 32 = .ok (.invokevirtual 102, 3) := by decide +kernel
theorem dX8_setSpeed_35 : decode cX8_setSpeed 35 = .ok (.ifCond .ne 7, 3) := by decide +kernel
theorem dX8_setSpeed_38 : decode cX8_setSpeed 38 = .ok (.sipush (-1003), 3) := by decide +kernel
theorem dX8_setSpeed_41 : decode cX8_setSpeed 41 = .ok (.ireturn, 1) := by decide +kernel
theorem dX8_setSpeed_42 : decode cX8_setSpeed 42 = .ok (.aload_n 0, 1) := by decide +kernel
theorem dX8_setSpeed_43 : decode cX8_setSpeed 43 = .ok (.getfield 19, 3) := by decide +kernel
theorem dX8_setSpeed_46 : decode cX8_setSpeed 46 = .ok (.aload_n 0, 1) := by decide +kernel
theorem dX8_setSpeed_47 : decode cX8_setSpeed 47 = .ok (.getfield 10, 3) := by decide +kernel
theorem dX8_setSpeed_50 : decode cX8_setSpeed 50 = .ok (.invokevirtual 63, 3) := by decide +kernel
theorem dX8_setSpeed_53 : decode cX8_setSpeed 53 = .ok (.aload_n 0, 1) := by decide +kernel
theorem dX8_setSpeed_54 : decode cX8_setSpeed 54 = .ok (.getfield 10, 3) := by decide +kernel
theorem dX8_setSpeed_57 : decode cX8_setSpeed 57 = .ok (.getfield 67, 3) := by decide +kernel
theorem dX8_setSpeed_60 : decode cX8_setSpeed 60 = .ok (.iload_n 1, 1) := by decide +kernel
theorem dX8_setSpeed_61 : decode cX8_setSpeed 61 = .ok (.iload_n 2, 1) := by decide +kernel
theorem dX8_setSpeed_62 : decode cX8_setSpeed 62 = .ok (.invokevirtual 105, 3) := by decide +kernel
theorem dX8_setSpeed_65 : decode cX8_setSpeed 65 = .ok (.aload_n 0, 1) := by decide +kernel
theorem dX8_setSpeed_66 : decode cX8_setSpeed 66 = .ok (.getfield 10, 3) := by decide +kernel
theorem dX8_setSpeed_69 : decode cX8_setSpeed 69 = .ok (.getfield 67, 3) := by decide +kernel
theorem dX8_setSpeed_72 : decode cX8_setSpeed 72 = .ok (.getfield 109, 3) := by decide +kernel
theorem dX8_setSpeed_75 : decode cX8_setSpeed 75 = .ok (.ireturn, 1) := by decide +kernel
theorem dX8_dropChange_0 : decode cX8_dropChange 0 = .ok (.aload_n 0, 1) := by decide +kernel
theorem dX8_dropChange_1 : decode cX8_dropChange 1 = .ok (.getfield 10, 3) := by decide +kernel
theorem dX8_dropChange_4 : decode cX8_dropChange 4 = .ok (.getfield 67, 3) := by decide +kernel
theorem dX8_dropChange_7 : decode cX8_dropChange 7 = .ok (.iload_n 1, 1) := by decide +kernel
theorem dX8_dropChange_8 : decode cX8_dropChange 8 = .ok (.invokevirtual 112, 3) := by decide +kernel
theorem dX8_dropChange_11 : decode cX8_dropChange 11 = .ok (.ifCond .ne 7, 3) := by decide +kernel
theorem dX8_dropChange_14 : decode cX8_dropChange 14 = .ok (.sipush (-1001), 3) := by decide +kernel
theorem dX8_dropChange_17 : decode cX8_dropChange 17 = .ok (.ireturn, 1) := by decide +kernel
theorem dX8_dropChange_18 : decode cX8_dropChange 18 = .ok (.aload_n 0, 1) := by decide +kernel
theorem dX8_dropChange_19 : decode cX8_dropChange 19 = .ok (.getfield 19, 3) := by decide +kernel
theorem dX8_dropChange_22 : decode cX8_dropChange 22 = .ok (.aload_n 0, 1) := by decide +kernel
theorem dX8_dropChange_23 : decode cX8_dropChange 23 = .ok (.getfield 10, 3) := by decide +kernel
theorem dX8_dropChange_26 : decode cX8_dropChange 26 = .ok (.invokevirtual 63, 3) := by decide +kernel
theorem dX8_dropChange_29 : decode cX8_dropChange 29 = .ok (.aload_n 0, 1) := by decide +kernel
theorem dX8_dropChange_30 : decode cX8_dropChange 30 = .ok (.getfield 10, 3) := by decide +kernel
theorem dX8_dropChange_33 : decode cX8_dropChange 33 = .ok (.getfield 67, 3) := by decide +kernel
theorem dX8_dropChange_36 : decode cX8_dropChange 36 = .ok (.iload_n 1, 1) := by decide +kernel
theorem dX8_dropChange_37 : decode cX8_dropChange 37 = .ok (.invokevirtual 115, 3) := by decide +kernel
theorem dX8_dropChange_40 : decode cX8_dropChange 40 = .ok (.aload_n 0, 1) := by decide +kernel
theorem dX8_dropChange_41 : decode cX8_dropChange 41 = .ok (.getfield 10, 3) := by decide +kernel
theorem dX8_dropChange_44 : decode cX8_dropChange 44 = .ok (.getfield 67, 3) := by decide +kernel
theorem dX8_dropChange_47 : decode cX8_dropChange 47 = .ok (.getfield 109, 3) := by decide +kernel
theorem dX8_dropChange_50 : decode cX8_dropChange 50 = .ok (.ireturn, 1) := by decide +kernel
theorem dX8_markAt_0 : decode cX8_markAt 0 = .ok (.iload_n 1, 1) := by decide +kernel
theorem dX8_markAt_1 : decode cX8_markAt 1 = .ok (.invokestatic 99, 3) := by decide +kernel
theorem dX8_markAt_4 : decode cX8_markAt 4 = .ok (.ifCond .eq 11, 3) := by decide +kernel
theorem dX8_markAt_7 : decode cX8_markAt 7 = .ok (.aload_n 0, 1) := by decide +kernel
theorem dX8_markAt_8 : decode cX8_markAt 8 = .ok (.iload_n 2, 1) := by decide +kernel
theorem dX8_markAt_9 : decode cX8_markAt 9 = .ok (.invokevirtual 80, 3) := by decide +kernel
theorem dX8_markAt_12 : decode cX8_markAt 12 = .ok (.ifCond .ne 7, 3) := by decide +kernel
theorem dX8_markAt_15 : decode cX8_markAt 15 = .ok (.sipush (-1001), 3) := by decide +kernel
theorem dX8_markAt_18 : decode cX8_markAt 18 = .ok (.ireturn, 1) := by decide +kernel
theorem dX8_markAt_19 : decode cX8_markAt 19 = .ok (.aload_n 0, 1) := by decide +kernel
theorem dX8_markAt_20 : decode cX8_markAt 20 = .ok (.getfield 10, 3) := by decide +kernel
theorem dX8_markAt_23 : decode cX8_markAt 23 = .ok (.getfield 67, 3) := by decide +kernel
theorem dX8_markAt_26 : decode cX8_markAt 26 = .ok (.iload_n 2, 1) := by decide +kernel
theorem dX8_markAt_27 : decode cX8_markAt 27 = .ok (.aload_n 0, 1) := by decide +kernel
theorem dX8_markAt_28 : decode cX8_markAt 28 = .ok (.getfield 10, 3) := by decide +kernel
theorem dX8_markAt_31 : decode cX8_markAt 31 = .ok (.getfield 67, 3) := by decide +kernel
theorem dX8_markAt_34 : decode cX8_markAt 34 = .ok (.iload_n 1, 1) := by decide +kernel
theorem dX8_markAt_35 : decode cX8_markAt 35 = .ok (.invokevirtual 118, 3) := by decide +kernel
theorem dX8_markAt_38 : decode cX8_markAt 38 = .ok (.isub, 1) := by decide +kernel
theorem dX8_markAt_39 : decode cX8_markAt 39 = .ok (.aload_n 0, 1) := by decide +kernel
theorem dX8_markAt_40 : decode cX8_markAt 40 = .ok (.getfield 10, 3) := by decide +kernel
theorem dX8_markAt_43 : decode cX8_markAt 43 = .ok (.getfield 67, 3) := by decide +kernel
theorem dX8_markAt_46 : decode cX8_markAt 46 = .ok (.getfield 74, 3) := by decide +kernel
theorem dX8_markAt_49 : decode cX8_markAt 49 = .ok (.invokestatic 121, 3) := by decide +kernel
theorem dX8_markAt_52 : decode cX8_markAt 52 = .ok (.invokevirtual 84, 3) := by decide +kernel
theorem dX8_markAt_55 : decode cX8_markAt 55 = .ok (.ireturn, 1) := by decide +kernel
theorem dX8_turn_0 : decode cX8_turn 0 = .ok (.iload_n 1, 1) := by decide +kernel
theorem dX8_turn_1 : decode cX8_turn 1 = .ok (.invokestatic 99, 3) := by decide +kernel
theorem dX8_turn_4 : decode cX8_turn 4 = .ok (.ifCond .ne 7, 3) := by decide +kernel
theorem dX8_turn_7 : decode cX8_turn 7 = .ok (.sipush (-1001), 3) := by decide +kernel
theorem dX8_turn_10 : decode cX8_turn 10 = .ok (.ireturn, 1) := by decide +kernel
theorem dX8_turn_11 : decode cX8_turn 11 = .ok (.aload_n 0, 1) := by decide +kernel
theorem dX8_turn_12 : decode cX8_turn 12 = .ok (.getfield 10, 3) := by decide +kernel
theorem dX8_turn_15 : decode cX8_turn 15 = .ok (.getfield 67, 3) := by decide +kernel
theorem dX8_turn_18 : decode cX8_turn 18 = .ok (.iload_n 1, 1) := by decide +kernel
theorem dX8_turn_19 : decode cX8_turn 19 = .ok (.invokevirtual 118, 3) := by decide +kernel
theorem dX8_turn_22 : decode cX8_turn 22 = .ok (.aload_n 0, 1) := by decide +kernel
theorem dX8_turn_23 : decode cX8_turn 23 = .ok (.getfield 10, 3) := by decide +kernel
theorem dX8_turn_26 : decode cX8_turn 26 = .ok (.getfield 67, 3) := by decide +kernel
theorem dX8_turn_29 : decode cX8_turn 29 = .ok (.getfield 74, 3) := by decide +kernel
theorem dX8_turn_32 : decode cX8_turn 32 = .ok (.invokestatic 121, 3) := by decide +kernel
theorem dX8_turn_35 : decode cX8_turn 35 = .ok (.ireturn, 1) := by decide +kernel
theorem dX8_setFlash_0 : decode cX8_setFlash 0 = .ok (.iload_n 1, 1) := by decide +kernel
theorem dX8_setFlash_1 : decode cX8_setFlash 1 = .ok (.invokestatic 99, 3) := by decide +kernel
theorem dX8_setFlash_4 : decode cX8_setFlash 4 = .ok (.ifCond .eq 14, 3) := by decide +kernel
theorem dX8_setFlash_7 : decode cX8_setFlash 7 = .ok (.iload_n 2, 1) := by decide +kernel
theorem dX8_setFlash_8 : decode cX8_setFlash 8 = .ok (.iconst 1, 1) := by decide +kernel
theorem dX8_setFlash_9 : decode cX8_setFlash 9 = .ok (.sipush 500, 3) := by decide +kernel
theorem dX8_setFlash_12 : decode cX8_setFlash 12 = .ok (.invokestatic 44, 3) := by decide +kernel
theorem dX8_setFlash_15 : decode cX8_setFlash 15 = .ok (.ifCond .ne 7, 3) := by decide +kernel
theorem dX8_setFlash_18 : decode cX8_setFlash 18 = .ok (.sipush (-1001), 3) := by decide +kernel
theorem dX8_setFlash_21 : decode cX8_setFlash 21 = .ok (.ireturn, 1) := by decide +kernel
theorem dX8_setFlash_22 : decode cX8_setFlash 22 = .ok (.aload_n 0, 1) := by decide +kernel
theorem dX8_setFlash_23 : decode cX8_setFlash 23 = .ok (.getfield 19, 3) := by decide +kernel
theorem dX8_setFlash_26 : decode cX8_setFlash 26 = .ok (.aload_n 0, 1) := by decide +kernel
theorem dX8_setFlash_27 : decode cX8_setFlash 27 = .ok (.getfield 10, 3) := by decide +kernel
theorem dX8_setFlash_30 : decode cX8_setFlash 30 = .ok (.invokevirtual 63, 3) := by decide +kernel
theorem dX8_setFlash_33 : decode cX8_setFlash 33 = .ok (.aload_n 0, 1) := by decide +kernel
theorem dX8_setFlash_34 : decode cX8_setFlash 34 = .ok (.getfield 10, 3) := by decide +kernel
theorem dX8_setFlash_37 : decode cX8_setFlash 37 = .ok (.getfield 125, 3) := by decide +kernel
theorem dX8_setFlash_40 : decode cX8_setFlash 40 = .ok (.iload_n 1, 1) := by decide +kernel
theorem dX8_setFlash_41 : decode cX8_setFlash 41 = .ok (.putfield 129, 3) := by decide +kernel
theorem dX8_setFlash_44 : decode cX8_setFlash 44 = .ok (.aload_n 0, 1) := by decide +kernel
theorem dX8_setFlash_45 : decode cX8_setFlash 45 = .ok (.getfield 10, 3) := by decide +kernel
theorem dX8_setFlash_48 : decode cX8_setFlash 48 = .ok (.getfield 125, 3) := by decide +kernel
theorem dX8_setFlash_51 : decode cX8_setFlash 51 = .ok (.iload_n 2, 1) := by decide +kernel
theorem dX8_setFlash_52 : decode cX8_setFlash 52 = .ok (.putfield 134, 3) := by decide +kernel
theorem dX8_setFlash_55 : decode cX8_setFlash 55 = .ok (.aload_n 0, 1) := by decide +kernel
theorem dX8_setFlash_56 : decode cX8_setFlash 56 = .ok (.getfield 10, 3) := by decide +kernel
theorem dX8_setFlash_59 : decode cX8_setFlash 59 = .ok (.getfield 125, 3) := by decide +kernel
theorem dX8_setFlash_62 : decode cX8_setFlash 62 = .ok (.invokevirtual 137, 3) := by decide +kernel
theorem dX8_setFlash_65 : decode cX8_setFlash 65 = .ok (.ireturn, 1) := by decide +kernel
theorem dX8_flash_0 : decode cX8_flash 0 = .ok (.aload_n 0, 1) := by decide +kernel
theorem dX8_flash_1 : decode cX8_flash 1 = .ok (.iload_n 1, 1) := by decide +kernel
theorem dX8_flash_2 : decode cX8_flash 2 = .ok (.invokevirtual 141, 3) := by decide +kernel
theorem dX8_flash_5 : decode cX8_flash 5 = .ok (.ifCond .eq 12, 3) := by decide +kernel
theorem dX8_flash_8 : decode cX8_flash 8 = .ok (.iload_n 2, 1) := by decide +kernel
theorem dX8_flash_9 : decode cX8_flash 9 = .ok (.iconst 0, 1) := by decide +kernel
theorem dX8_flash_10 : decode cX8_flash 10 = .ok (.iconst 3, 1) := by decide +kernel
theorem dX8_flash_11 : decode cX8_flash 11 = .ok (.invokestatic 44, 3) := by decide +kernel
theorem dX8_flash_14 : decode cX8_flash 14 = .ok (.ifCond .ne 7, 3) := by decide +kernel
theorem dX8_flash_17 : decode cX8_flash 17 = .ok (.sipush (-1001), 3) := by decide +kernel
theorem dX8_flash_20 : decode cX8_flash 20 = .ok (.ireturn, 1) := by decide +kernel
theorem dX8_flash_21 : decode cX8_flash 21 = .ok (.aload_n 0, 1) := by decide +kernel
theorem dX8_flash_22 : decode cX8_flash 22 = .ok (.getfield 10, 3) := by decide +kernel
theorem dX8_flash_25 : decode cX8_flash 25 = .ok (.getfield 125, 3) := by decide +kernel
theorem dX8_flash_28 : decode cX8_flash 28 = .ok (.iload_n 1, 1) := by decide +kernel
theorem dX8_flash_29 : decode cX8_flash 29 = .ok (.invokevirtual 144, 3) := by decide +kernel
theorem dX8_flash_32 : decode cX8_flash 32 = .ok (.istore_n 3, 1) := by decide +kernel
theorem dX8_flash_33 : decode cX8_flash 33 = .ok (.iload_n 2, 1) := by decide +kernel
theorem dX8_flash_34 : decode cX8_flash 34 = .ok (.tableswitch 69 0 2 #[26, 28, 34], 26) := by decide +kernel
theorem dX8_flash_60 : decode cX8_flash 60 = .ok (.iload_n 3, 1) := by decide +kernel
theorem dX8_flash_61 : decode cX8_flash 61 = .ok (.ireturn, 1) := by decide +kernel
theorem dX8_flash_62 : decode cX8_flash 62 = .ok (.aload_n 0, 1) := by decide +kernel
theorem dX8_flash_63 : decode cX8_flash 63 = .ok (.iload_n 3, 1) := by decide +kernel
theorem dX8_flash_64 : decode cX8_flash 64 = .ok (.invokevirtual 147, 3) := by decide +kernel
theorem dX8_flash_67 : decode cX8_flash 67 = .ok (.ireturn, 1) := by decide +kernel
theorem dX8_flash_68 : decode cX8_flash 68 = .ok (.aload_n 0, 1) := by decide +kernel
theorem dX8_flash_69 : decode cX8_flash 69 = .ok (.iload_n 1, 1) := by decide +kernel
theorem dX8_flash_70 : decode cX8_flash 70 = .ok (.iconst 1, 1) := by decide +kernel
theorem dX8_flash_71 : decode cX8_flash 71 = .ok (.iadd, 1) := by decide +kernel
theorem dX8_flash_72 : decode cX8_flash 72 = .ok (.invokevirtual 141, 3) := by decide +kernel
theorem dX8_flash_75 : decode cX8_flash 75 = .ok (.ifCond .eq 24, 3) := by decide +kernel
theorem dX8_flash_78 : decode cX8_flash 78 = .ok (.aload_n 0, 1) := by decide +kernel
theorem dX8_flash_79 : decode cX8_flash 79 = .ok (.iload_n 3, 1) := by decide +kernel
theorem dX8_flash_80 : decode cX8_flash 80 = .ok (.aload_n 0, 1) := by decide +kernel
theorem dX8_flash_81 : decode cX8_flash 81 = .ok (.getfield 10, 3) := by decide +kernel
theorem dX8_flash_84 : decode cX8_flash 84 = .ok (.getfield 125, 3) := by decide +kernel
theorem dX8_flash_87 : decode cX8_flash 87 = .ok (.iload_n 1, 1) := by decide +kernel
theorem dX8_flash_88 : decode cX8_flash 88 = .ok (.iconst 1, 1) := by decide +kernel
theorem dX8_flash_89 : decode cX8_flash 89 = .ok (.iadd, 1) := by decide +kernel
theorem dX8_flash_90 : decode cX8_flash 90 = .ok (.invokevirtual 144, 3) := by decide +kernel
theorem dX8_flash_93 : decode cX8_flash 93 = .ok (.invokevirtual 150, 3) := by decide +kernel
theorem dX8_flash_96 : decode cX8_flash 96 = .ok (.goto 6, 3) := by decide +kernel
theorem dX8_flash_99 : decode cX8_flash 99 = .ok (.sipush (-1004), 3) := by decide +kernel
theorem dX8_flash_102 : decode cX8_flash 102 = .ok (.ireturn, 1) := by decide +kernel
theorem dX8_flash_103 : decode cX8_flash 103 = .ok (.aload_n 0, 1) := by decide +kernel
theorem dX8_flash_104 : decode cX8_flash 104 = .ok (.getfield 10, 3) := by decide +kernel
theorem dX8_flash_107 : decode cX8_flash 107 = .ok (.iload_n 1, 1) := by decide +kernel
theorem dX8_flash_108 : decode cX8_flash 108 = .ok (.invokevirtual 153, 3) := by decide +kernel
theorem dX8_flash_111 : decode cX8_flash 111 = .ok (.ireturn, 1) := by decide +kernel
theorem dX8_step_0 : decode cX8_step 0 = .ok (.iload_n 1, 1) := by decide +kernel
theorem dX8_step_1 : decode cX8_step 1 = .ok (.invokestatic 99, 3) := by decide +kernel
theorem dX8_step_4 : decode cX8_step 4 = .ok (.ifCond .eq 10, 3) := by decide +kernel
theorem dX8_step_7 : decode cX8_step 7 = .ok (.iload_n 2, 1) := by decide +kernel
theorem dX8_step_8 : decode cX8_step 8 = .ok (.invokestatic 99, 3) := by decide +kernel
theorem dX8_step_11 : decode cX8_step 11 = .ok (.ifCond .ne 7, 3) := by decide +kernel
theorem dX8_step_14 : decode cX8_step 14 = .ok (.sipush (-1001), 3) := by decide +kernel
theorem dX8_step_17 : decode cX8_step 17 = .ok (.ireturn, 1) := by decide +kernel
theorem dX8_step_18 : decode cX8_step 18 = .ok (.aload_n 0, 1) := by decide +kernel
theorem dX8_step_19 : decode cX8_step 19 = .ok (.getfield 10, 3) := by decide +kernel
theorem dX8_step_22 : decode cX8_step 22 = .ok (.getfield 67, 3) := by decide +kernel
theorem dX8_step_25 : decode cX8_step 25 = .ok (.iload_n 1, 1) := by decide +kernel
theorem dX8_step_26 : decode cX8_step 26 = .ok (.iload_n 2, 1) := by decide +kernel
theorem dX8_step_27 : decode cX8_step 27 = .ok (.aload_n 0, 1) := by decide +kernel
theorem dX8_step_28 : decode cX8_step 28 = .ok (.getfield 10, 3) := by decide +kernel
theorem dX8_step_31 : decode cX8_step 31 = .ok (.getfield 67, 3) := by decide +kernel
theorem dX8_step_34 : decode cX8_step 34 = .ok (.invokevirtual 156, 3) := by decide +kernel
theorem dX8_step_37 : decode cX8_step 37 = .ok (.invokevirtual 159, 3) := by decide +kernel
theorem dX8_step_40 : decode cX8_step 40 = .ok (.ireturn, 1) := by decide +kernel
theorem dX8_seems_0 : decode cX8_seems 0 = .ok (.iload_n 1, 1) := by decide +kernel
theorem dX8_seems_1 : decode cX8_seems 1 = .ok (.iconst 0, 1) := by decide +kernel
theorem dX8_seems_2 : decode cX8_seems 2 = .ok (.iconst 3, 1) := by decide +kernel
theorem dX8_seems_3 : decode cX8_seems 3 = .ok (.invokestatic 44, 3) := by decide +kernel
theorem dX8_seems_6 : decode cX8_seems 6 = .ok (.ifCond .ne 7, 3) := by decide +kernel
theorem dX8_seems_9 : decode cX8_seems 9 = .ok (.sipush (-1001), 3) := by decide +kernel
theorem dX8_seems_12 : decode cX8_seems 12 = .ok (.ireturn, 1) := by decide +kernel
theorem dX8_seems_13 : decode cX8_seems 13 = .ok (.iload_n 1, 1) := by decide +kernel
theorem dX8_seems_14 : decode cX8_seems 14 = .ok (.iconst 3, 1) := by decide +kernel
theorem dX8_seems_15 : decode cX8_seems 15 = .ok (.if_icmp .ne 13, 3) := by decide +kernel
theorem dX8_seems_18 : decode cX8_seems 18 = .ok (.aload_n 0, 1) := by decide +kernel
theorem dX8_seems_19 : decode cX8_seems 19 = .ok (.getfield 10, 3) := by decide +kernel
theorem dX8_seems_22 : decode cX8_seems 22 = .ok (.invokevirtual 163, 3) := by decide +kernel
theorem dX8_seems_25 : decode cX8_seems 25 = .ok (.goto 11, 3) := by decide +kernel
theorem dX8_seems_28 : decode cX8_seems 28 = .ok (.aload_n 0, 1) := by decide +kernel
theorem dX8_seems_29 : decode cX8_seems 29 = .ok (.getfield 10, 3) := by decide +kernel
theorem dX8_seems_32 : decode cX8_seems 32 = .ok (.iload_n 1, 1) := by decide +kernel
theorem dX8_seems_33 : decode cX8_seems 33 = .ok (.invokevirtual 166, 3) := by decide +kernel
theorem dX8_seems_36 : decode cX8_seems 36 = .ok (.ireturn, 1) := by decide +kernel
theorem dX8_stillPeriod_0 : decode cX8_stillPeriod 0 = .ok (.iload_n 1, 1) := by decide +kernel
theorem dX8_stillPeriod_1 : decode cX8_stillPeriod 1 = .ok (.iconst 1, 1) := by decide +kernel
theorem dX8_stillPeriod_2 : decode cX8_stillPeriod 2 = .ok (.sipush 500, 3) := by decide +kernel
theorem dX8_stillPeriod_5 : decode cX8_stillPeriod 5 = .ok (.invokestatic 44, 3) := by decide +kernel
theorem dX8_stillPeriod_8 : decode cX8_stillPeriod 8 = .ok (.ifCond .eq 14, 3) := by decide +kernel
theorem dX8_stillPeriod_11 : decode cX8_stillPeriod 11 = .ok (.iload_n 2, 1) := by decide +kernel
theorem dX8_stillPeriod_12 : decode cX8_stillPeriod 12 = .ok (.iload_n 1, 1) := by decide +kernel
theorem dX8_stillPeriod_13 : decode cX8_stillPeriod 13 = .ok (.sipush 500, 3) := by decide +kernel
theorem dX8_stillPeriod_16 : decode cX8_stillPeriod 16 = .ok (.invokestatic 44, 3) := by decide +kernel
theorem dX8_stillPeriod_19 : decode cX8_stillPeriod 19 = .ok (.ifCond .ne 7, 3) := by decide +kernel
theorem dX8_stillPeriod_22 : decode cX8_stillPeriod 22 = .ok (.sipush (-1001), 3) := by decide +kernel
theorem dX8_stillPeriod_25 : decode cX8_stillPeriod 25 = .ok (.ireturn, 1) := by decide +kernel
theorem dX8_stillPeriod_26 : decode cX8_stillPeriod 26 = .ok (.aload_n 0, 1) := by decide +kernel
theorem dX8_stillPeriod_27 : decode cX8_stillPeriod 27 = .ok (.getfield 10, 3) := by decide +kernel
theorem dX8_stillPeriod_30 : decode cX8_stillPeriod 30 = .ok (.getfield 67, 3) := by decide +kernel
theorem dX8_stillPeriod_33 : decode cX8_stillPeriod 33 = .ok (.invokevirtual 156, 3) := by decide +kernel
theorem dX8_stillPeriod_36 : decode cX8_stillPeriod 36 = .ok (.istore_n 3, 1) := by decide +kernel
theorem dX8_stillPeriod_37 : decode cX8_stillPeriod 37 = .ok (.iload_n 1, 1) := by decide +kernel
theorem dX8_stillPeriod_38 : decode cX8_stillPeriod 38 = .ok (.istore 4, 2) := by decide +kernel
theorem dX8_stillPeriod_40 : decode cX8_stillPeriod 40 = .ok (.iload 4, 2) := by decide +kernel
theorem dX8_stillPeriod_42 : decode cX8_stillPeriod 42 = .ok (.iload_n 2, 1) := by decide +kernel
theorem dX8_stillPeriod_43 : decode cX8_stillPeriod 43 = .ok (.if_icmp .gt 32, 3) := by decide +kernel
theorem dX8_stillPeriod_46 : decode cX8_stillPeriod 46 = .ok (.aload_n 0, 1) := by decide +kernel
theorem dX8_stillPeriod_47 : decode cX8_stillPeriod 47 = .ok (.getfield 10, 3) := by decide +kernel
theorem dX8_stillPeriod_50 : decode cX8_stillPeriod 50 = .ok (.getfield 67, 3) := by decide +kernel
theorem dX8_stillPeriod_53 : decode cX8_stillPeriod 53 = .ok (.getfield 169, 3) := by decide +kernel
theorem dX8_stillPeriod_56 : decode cX8_stillPeriod 56 = .ok (.iload 4, 2) := by decide +kernel
theorem dX8_stillPeriod_58 : decode cX8_stillPeriod 58 = .ok (.imul, 1) := by decide +kernel
theorem dX8_stillPeriod_59 : decode cX8_stillPeriod 59 = .ok (.iload_n 3, 1) := by decide +kernel
theorem dX8_stillPeriod_60 : decode cX8_stillPeriod 60 = .ok (.invokestatic 121, 3) := by decide +kernel
theorem dX8_stillPeriod_63 : decode cX8_stillPeriod 63 = .ok (.ifCond .ne 6, 3) := by decide +kernel
theorem dX8_stillPeriod_66 : decode cX8_stillPeriod 66 = .ok (.iload 4, 2) := by decide +kernel
theorem dX8_stillPeriod_68 : decode cX8_stillPeriod 68 = .ok (.ireturn, 1) := by decide +kernel
theorem dX8_stillPeriod_69 : decode cX8_stillPeriod 69 = .ok (.iinc 4 1, 3) := by decide +kernel
theorem dX8_stillPeriod_72 : decode cX8_stillPeriod 72 = .ok (.goto (-32), 3) := by decide +kernel
theorem dX8_stillPeriod_75 : decode cX8_stillPeriod 75 = .ok (.sipush (-1004), 3) := by decide +kernel
theorem dX8_stillPeriod_78 : decode cX8_stillPeriod 78 = .ok (.ireturn, 1) := by decide +kernel
theorem dX8_read_0 : decode cX8_read 0 = .ok (.iload_n 1, 1) := by decide +kernel
theorem dX8_read_1 : decode cX8_read 1 = .ok (.iconst 1, 1) := by decide +kernel
theorem dX8_read_2 : decode cX8_read 2 = .ok (.sipush 500, 3) := by decide +kernel
theorem dX8_read_5 : decode cX8_read 5 = .ok (.invokestatic 44, 3) := by decide +kernel
theorem dX8_read_8 : decode cX8_read 8 = .ok (.ifCond .eq 14, 3) := by decide +kernel
theorem dX8_read_11 : decode cX8_read 11 = .ok (.iload_n 2, 1) := by decide +kernel
theorem dX8_read_12 : decode cX8_read 12 = .ok (.bipush (-30), 2) := by decide +kernel
theorem dX8_read_14 : decode cX8_read 14 = .ok (.bipush 30, 2) := by decide +kernel
theorem dX8_read_16 : decode cX8_read 16 = .ok (.invokestatic 44, 3) := by decide +kernel
theorem dX8_read_19 : decode cX8_read 19 = .ok (.ifCond .ne 7, 3) := by decide +kernel
theorem dX8_read_22 : decode cX8_read 22 = .ok (.sipush (-1001), 3) := by decide +kernel
theorem dX8_read_25 : decode cX8_read 25 = .ok (.ireturn, 1) := by decide +kernel
theorem dX8_read_26 : decode cX8_read 26 = .ok (.aload_n 0, 1) := by decide +kernel
theorem dX8_read_27 : decode cX8_read 27 = .ok (.iload_n 1, 1) := by decide +kernel
theorem dX8_read_28 : decode cX8_read 28 = .ok (.iload_n 2, 1) := by decide +kernel
theorem dX8_read_29 : decode cX8_read 29 = .ok (.invokevirtual 172, 3) := by decide +kernel
theorem dX8_read_32 : decode cX8_read 32 = .ok (.ireturn, 1) := by decide +kernel
theorem dX8_look_0 : decode cX8_look 0 = .ok (.aload_n 0, 1) := by decide +kernel
theorem dX8_look_1 : decode cX8_look 1 = .ok (.iload_n 1, 1) := by decide +kernel
theorem dX8_look_2 : decode cX8_look 2 = .ok (.invokevirtual 141, 3) := by decide +kernel
theorem dX8_look_5 : decode cX8_look 5 = .ok (.ifCond .eq 19, 3) := by decide +kernel
theorem dX8_look_8 : decode cX8_look 8 = .ok (.iload_n 1, 1) := by decide +kernel
theorem dX8_look_9 : decode cX8_look 9 = .ok (.aload_n 0, 1) := by decide +kernel
theorem dX8_look_10 : decode cX8_look 10 = .ok (.getfield 10, 3) := by decide +kernel
theorem dX8_look_13 : decode cX8_look 13 = .ok (.getfield 125, 3) := by decide +kernel
theorem dX8_look_16 : decode cX8_look 16 = .ok (.invokevirtual 137, 3) := by decide +kernel
theorem dX8_look_19 : decode cX8_look 19 = .ok (.iconst 1, 1) := by decide +kernel
theorem dX8_look_20 : decode cX8_look 20 = .ok (.isub, 1) := by decide +kernel
theorem dX8_look_21 : decode cX8_look 21 = .ok (.if_icmp .ne 7, 3) := by decide +kernel
theorem dX8_look_24 : decode cX8_look 24 = .ok (.sipush (-1001), 3) := by decide +kernel
theorem dX8_look_27 : decode cX8_look 27 = .ok (.ireturn, 1) := by decide +kernel
theorem dX8_look_28 : decode cX8_look 28 = .ok (.aload_n 0, 1) := by decide +kernel
theorem dX8_look_29 : decode cX8_look 29 = .ok (.aload_n 0, 1) := by decide +kernel
theorem dX8_look_30 : decode cX8_look 30 = .ok (.getfield 10, 3) := by decide +kernel
theorem dX8_look_33 : decode cX8_look 33 = .ok (.getfield 125, 3) := by decide +kernel
theorem dX8_look_36 : decode cX8_look 36 = .ok (.getfield 134, 3) := by decide +kernel
theorem dX8_look_39 : decode cX8_look 39 = .ok (.aload_n 0, 1) := by decide +kernel
theorem dX8_look_40 : decode cX8_look 40 = .ok (.iload_n 1, 1) := by decide +kernel
theorem dX8_look_41 : decode cX8_look 41 = .ok (.iconst 2, 1) := by decide +kernel
theorem dX8_look_42 : decode cX8_look 42 = .ok (.invokevirtual 175, 3) := by decide +kernel
theorem dX8_look_45 : decode cX8_look 45 = .ok (.invokevirtual 172, 3) := by decide +kernel
theorem dX8_look_48 : decode cX8_look 48 = .ok (.ireturn, 1) := by decide +kernel
theorem dX8_dropReading_0 : decode cX8_dropReading 0 = .ok (.aload_n 0, 1) := by decide +kernel
theorem dX8_dropReading_1 : decode cX8_dropReading 1 = .ok (.iload_n 1, 1) := by decide +kernel
theorem dX8_dropReading_2 : decode cX8_dropReading 2 = .ok (.invokevirtual 178, 3) := by decide +kernel
theorem dX8_dropReading_5 : decode cX8_dropReading 5 = .ok (.ifCond .ne 7, 3) := by decide +kernel
theorem dX8_dropReading_8 : decode cX8_dropReading 8 = .ok (.sipush (-1001), 3) := by decide +kernel
theorem dX8_dropReading_11 : decode cX8_dropReading 11 = .ok (.ireturn, 1) := by decide +kernel
theorem dX8_dropReading_12 : decode cX8_dropReading 12 = .ok (.aload_n 0, 1) := by decide +kernel
theorem dX8_dropReading_13 : decode cX8_dropReading 13 = .ok (.getfield 19, 3) := by decide +kernel
theorem dX8_dropReading_16 : decode cX8_dropReading 16 = .ok (.aload_n 0, 1) := by decide +kernel
theorem dX8_dropReading_17 : decode cX8_dropReading 17 = .ok (.getfield 10, 3) := by decide +kernel
theorem dX8_dropReading_20 : decode cX8_dropReading 20 = .ok (.invokevirtual 63, 3) := by decide +kernel
theorem dX8_dropReading_23 : decode cX8_dropReading 23 = .ok (.aload_n 0, 1) := by decide +kernel
theorem dX8_dropReading_24 : decode cX8_dropReading 24 = .ok (.getfield 10, 3) := by decide +kernel
theorem dX8_dropReading_27 : decode cX8_dropReading 27 = .ok (.getfield 181, 3) := by decide +kernel
theorem dX8_dropReading_30 : decode cX8_dropReading 30 = .ok (.iload_n 1, 1) := by decide +kernel
theorem dX8_dropReading_31 : decode cX8_dropReading 31 = .ok (.invokevirtual 185, 3) := by decide +kernel
theorem dX8_dropReading_34 : decode cX8_dropReading 34 = .ok (.aload_n 0, 1) := by decide +kernel
theorem dX8_dropReading_35 : decode cX8_dropReading 35 = .ok (.getfield 10, 3) := by decide +kernel
theorem dX8_dropReading_38 : decode cX8_dropReading 38 = .ok (.getfield 181, 3) := by decide +kernel
theorem dX8_dropReading_41 : decode cX8_dropReading 41 = .ok (.getfield 190, 3) := by decide +kernel
theorem dX8_dropReading_44 : decode cX8_dropReading 44 = .ok (.ireturn, 1) := by decide +kernel
theorem dX8_reading_0 : decode cX8_reading 0 = .ok (.aload_n 0, 1) := by decide +kernel
theorem dX8_reading_1 : decode cX8_reading 1 = .ok (.iload_n 1, 1) := by decide +kernel
theorem dX8_reading_2 : decode cX8_reading 2 = .ok (.invokevirtual 178, 3) := by decide +kernel
theorem dX8_reading_5 : decode cX8_reading 5 = .ok (.ifCond .eq 12, 3) := by decide +kernel
theorem dX8_reading_8 : decode cX8_reading 8 = .ok (.iload_n 2, 1) := by decide +kernel
theorem dX8_reading_9 : decode cX8_reading 9 = .ok (.iconst 0, 1) := by decide +kernel
theorem dX8_reading_10 : decode cX8_reading 10 = .ok (.iconst 2, 1) := by decide +kernel
theorem dX8_reading_11 : decode cX8_reading 11 = .ok (.invokestatic 44, 3) := by decide +kernel
theorem dX8_reading_14 : decode cX8_reading 14 = .ok (.ifCond .ne 7, 3) := by decide +kernel
theorem dX8_reading_17 : decode cX8_reading 17 = .ok (.sipush (-1001), 3) := by decide +kernel
theorem dX8_reading_20 : decode cX8_reading 20 = .ok (.ireturn, 1) := by decide +kernel
theorem dX8_reading_21 : decode cX8_reading 21 = .ok (.iload_n 2, 1) := by decide +kernel
theorem dX8_reading_22 : decode cX8_reading 22 = .ok (.lookupswitch 56 #[(0, 26), (1, 41)], 26) := by decide +kernel
theorem dX8_reading_48 : decode cX8_reading 48 = .ok (.aload_n 0, 1) := by decide +kernel
theorem dX8_reading_49 : decode cX8_reading 49 = .ok (.getfield 10, 3) := by decide +kernel
theorem dX8_reading_52 : decode cX8_reading 52 = .ok (.getfield 181, 3) := by decide +kernel
theorem dX8_reading_55 : decode cX8_reading 55 = .ok (.getfield 193, 3) := by decide +kernel
theorem dX8_reading_58 : decode cX8_reading 58 = .ok (.iload_n 1, 1) := by decide +kernel
theorem dX8_reading_59 : decode cX8_reading 59 = .ok (.invokestatic 196, 3) := by decide +kernel
theorem dX8_reading_62 : decode cX8_reading 62 = .ok (.ireturn, 1) := by decide +kernel
theorem dX8_reading_63 : decode cX8_reading 63 = .ok (.aload_n 0, 1) := by decide +kernel
theorem dX8_reading_64 : decode cX8_reading 64 = .ok (.getfield 10, 3) := by decide +kernel
theorem dX8_reading_67 : decode cX8_reading 67 = .ok (.getfield 181, 3) := by decide +kernel
theorem dX8_reading_70 : decode cX8_reading 70 = .ok (.getfield 200, 3) := by decide +kernel
theorem dX8_reading_73 : decode cX8_reading 73 = .ok (.iload_n 1, 1) := by decide +kernel
theorem dX8_reading_74 : decode cX8_reading 74 = .ok (.invokestatic 196, 3) := by decide +kernel
theorem dX8_reading_77 : decode cX8_reading 77 = .ok (.ireturn, 1) := by decide +kernel
theorem dX8_reading_78 : decode cX8_reading 78 = .ok (.aload_n 0, 1) := by decide +kernel
theorem dX8_reading_79 : decode cX8_reading 79 = .ok (.iload_n 1, 1) := by decide +kernel
theorem dX8_reading_80 : decode cX8_reading 80 = .ok (.invokevirtual 203, 3) := by decide +kernel
theorem dX8_reading_83 : decode cX8_reading 83 = .ok (.invokevirtual 207, 3) := by decide +kernel
theorem dX8_reading_86 : decode cX8_reading 86 = .ok (.ireturn, 1) := by decide +kernel
theorem dX8_setLimit_0 : decode cX8_setLimit 0 = .ok (.iload_n 1, 1) := by decide +kernel
theorem dX8_setLimit_1 : decode cX8_setLimit 1 = .ok (.iconst 1, 1) := by decide +kernel
theorem dX8_setLimit_2 : decode cX8_setLimit 2 = .ok (.sipush 1000, 3) := by decide +kernel
theorem dX8_setLimit_5 : decode cX8_setLimit 5 = .ok (.invokestatic 44, 3) := by decide +kernel
theorem dX8_setLimit_8 : decode cX8_setLimit 8 = .ok (.ifCond .ne 7, 3) := by decide +kernel
theorem dX8_setLimit_11 : decode cX8_setLimit 11 = .ok (.sipush (-1001), 3) := by decide +kernel
theorem dX8_setLimit_14 : decode cX8_setLimit 14 = .ok (.ireturn, 1) := by decide +kernel
theorem dX8_setLimit_15 : decode cX8_setLimit 15 = .ok (.aload_n 0, 1) := by decide +kernel
theorem dX8_setLimit_16 : decode cX8_setLimit 16 = .ok (.getfield 19, 3) := by decide +kernel
theorem dX8_setLimit_19 : decode cX8_setLimit 19 = .ok (.aload_n 0, 1) := by decide +kernel
theorem dX8_setLimit_20 : decode cX8_setLimit 20 = .ok (.getfield 10, 3) := by decide +kernel
theorem dX8_setLimit_23 : decode cX8_setLimit 23 = .ok (.invokevirtual 63, 3) := by decide +kernel
theorem dX8_setLimit_26 : decode cX8_setLimit 26 = .ok (.aload_n 0, 1) := by decide +kernel
theorem dX8_setLimit_27 : decode cX8_setLimit 27 = .ok (.getfield 10, 3) := by decide +kernel
theorem dX8_setLimit_30 : decode cX8_setLimit 30 = .ok (.getfield 181, 3) := by decide +kernel
theorem dX8_setLimit_33 : decode cX8_setLimit 33 = .ok (.getfield 208, 3) := by decide +kernel
theorem dX8_setLimit_36 : decode cX8_setLimit 36 = .ok (.istore_n 2, 1) := by decide +kernel
theorem dX8_setLimit_37 : decode cX8_setLimit 37 = .ok (.aload_n 0, 1) := by decide +kernel
theorem dX8_setLimit_38 : decode cX8_setLimit 38 = .ok (.getfield 10, 3) := by decide +kernel
theorem dX8_setLimit_41 : decode cX8_setLimit 41 = .ok (.getfield 181, 3) := by decide +kernel
theorem dX8_setLimit_44 : decode cX8_setLimit 44 = .ok (.iload_n 1, 1) := by decide +kernel
theorem dX8_setLimit_45 : decode cX8_setLimit 45 = .ok (.putfield 208, 3) := by decide +kernel
theorem dX8_setLimit_48 : decode cX8_setLimit 48 = .ok (.iload_n 2, 1) := by decide +kernel
theorem dX8_setLimit_49 : decode cX8_setLimit 49 = .ok (.ireturn, 1) := by decide +kernel
theorem dX8_candidates_0 : decode cX8_candidates 0 = .ok (.aload_n 0, 1) := by decide +kernel
theorem dX8_candidates_1 : decode cX8_candidates 1 = .ok (.iconst (-1), 1) := by decide +kernel
theorem dX8_candidates_2 : decode cX8_candidates 2 = .ok (.invokevirtual 203, 3) := by decide +kernel
theorem dX8_candidates_5 : decode cX8_candidates 5 = .ok (.invokevirtual 207, 3) := by decide +kernel
theorem dX8_candidates_8 : decode cX8_candidates 8 = .ok (.ireturn, 1) := by decide +kernel
theorem dX8_candidate_0 : decode cX8_candidate 0 = .ok (.iload_n 1, 1) := by decide +kernel
theorem dX8_candidate_1 : decode cX8_candidate 1 = .ok (.ifCond .ge 7, 3) := by decide +kernel
theorem dX8_candidate_4 : decode cX8_candidate 4 = .ok (.sipush (-1001), 3) := by decide +kernel
theorem dX8_candidate_7 : decode cX8_candidate 7 = .ok (.ireturn, 1) := by decide +kernel
theorem dX8_candidate_8 : decode cX8_candidate 8 = .ok (.aload_n 0, 1) := by decide +kernel
theorem dX8_candidate_9 : decode cX8_candidate 9 = .ok (.iconst (-1), 1) := by decide +kernel
theorem dX8_candidate_10 : decode cX8_candidate 10 = .ok (.invokevirtual 203, 3) := by decide +kernel
theorem dX8_candidate_13 : decode cX8_candidate 13 = .ok (.iload_n 1, 1) := by decide +kernel
theorem dX8_candidate_14 : decode cX8_candidate 14 = .ok (.invokevirtual 211, 3) := by decide +kernel
theorem dX8_candidate_17 : decode cX8_candidate 17 = .ok (.ireturn, 1) := by decide +kernel
theorem dX8_nearest_0 : decode cX8_nearest 0 = .ok (.iload_n 1, 1) := by decide +kernel
theorem dX8_nearest_1 : decode cX8_nearest 1 = .ok (.sipush (-1000), 3) := by decide +kernel
theorem dX8_nearest_4 : decode cX8_nearest 4 = .ok (.sipush 1000, 3) := by decide +kernel
theorem dX8_nearest_7 : decode cX8_nearest 7 = .ok (.invokestatic 44, 3) := by decide +kernel
theorem dX8_nearest_10 : decode cX8_nearest 10 = .ok (.ifCond .ne 7, 3) := by decide +kernel
theorem dX8_nearest_13 : decode cX8_nearest 13 = .ok (.sipush (-1001), 3) := by decide +kernel
theorem dX8_nearest_16 : decode cX8_nearest 16 = .ok (.ireturn, 1) := by decide +kernel
theorem dX8_nearest_17 : decode cX8_nearest 17 = .ok (.aload_n 0, 1) := by decide +kernel
theorem dX8_nearest_18 : decode cX8_nearest 18 = .ok (.iconst (-1), 1) := by decide +kernel
theorem dX8_nearest_19 : decode cX8_nearest 19 = .ok (.invokevirtual 203, 3) := by decide +kernel
theorem dX8_nearest_22 : decode cX8_nearest 22 = .ok (.iload_n 1, 1) := by decide +kernel
theorem dX8_nearest_23 : decode cX8_nearest 23 = .ok (.invokevirtual 214, 3) := by decide +kernel
theorem dX8_nearest_26 : decode cX8_nearest 26 = .ok (.ireturn, 1) := by decide +kernel
theorem dX8_odd_0 : decode cX8_odd 0 = .ok (.aload_n 0, 1) := by decide +kernel
theorem dX8_odd_1 : decode cX8_odd 1 = .ok (.invokevirtual 217, 3) := by decide +kernel
theorem dX8_odd_4 : decode cX8_odd 4 = .ok (.ifCond .le 7, 3) := by decide +kernel
theorem dX8_odd_7 : decode cX8_odd 7 = .ok (.sipush (-1002), 3) := by decide +kernel
theorem dX8_odd_10 : decode cX8_odd 10 = .ok (.ireturn, 1) := by decide +kernel
theorem dX8_odd_11 : decode cX8_odd 11 = .ok (.iconst 0, 1) := by decide +kernel
theorem dX8_odd_12 : decode cX8_odd 12 = .ok (.istore_n 1, 1) := by decide +kernel
theorem dX8_odd_13 : decode cX8_odd 13 = .ok (.iload_n 1, 1) := by decide +kernel
theorem dX8_odd_14 : decode cX8_odd 14 = .ok (.aload_n 0, 1) := by decide +kernel
theorem dX8_odd_15 : decode cX8_odd 15 = .ok (.getfield 10, 3) := by decide +kernel
theorem dX8_odd_18 : decode cX8_odd 18 = .ok (.getfield 181, 3) := by decide +kernel
theorem dX8_odd_21 : decode cX8_odd 21 = .ok (.getfield 190, 3) := by decide +kernel
theorem dX8_odd_24 : decode cX8_odd 24 = .ok (.if_icmp .ge 22, 3) := by decide +kernel
theorem dX8_odd_27 : decode cX8_odd 27 = .ok (.aload_n 0, 1) := by decide +kernel
theorem dX8_odd_28 : decode cX8_odd 28 = .ok (.iload_n 1, 1) := by decide +kernel
theorem dX8_odd_29 : decode cX8_odd 29 = .ok (.invokevirtual 203, 3) := by decide +kernel
theorem dX8_odd_32 : decode cX8_odd 32 = .ok (.invokevirtual 207, 3) := by decide +kernel
theorem dX8_odd_35 : decode cX8_odd 35 = .ok (.ifCond .le 5, 3) := by decide +kernel
theorem dX8_odd_38 : decode cX8_odd 38 = .ok (.iload_n 1, 1) := by decide +kernel
theorem dX8_odd_39 : decode cX8_odd 39 = .ok (.ireturn, 1) := by decide +kernel
theorem dX8_odd_40 : decode cX8_odd 40 = .ok (.iinc 1 1, 3) := by decide +kernel
theorem dX8_odd_43 : decode cX8_odd 43 = .ok (.goto (-30), 3) := by decide +kernel
theorem dX8_odd_46 : decode cX8_odd 46 = .ok (.sipush (-1004), 3) := by decide +kernel
theorem dX8_odd_49 : decode cX8_odd 49 = .ok (.ireturn, 1) := by decide +kernel
theorem dX8_bestPeriod_0 : decode cX8_bestPeriod 0 = .ok (.iload_n 1, 1) := by decide +kernel
theorem dX8_bestPeriod_1 : decode cX8_bestPeriod 1 = .ok (.iconst 1, 1) := by decide +kernel
theorem dX8_bestPeriod_2 : decode cX8_bestPeriod 2 = .ok (.sipush 500, 3) := by decide +kernel
theorem dX8_bestPeriod_5 : decode cX8_bestPeriod 5 = .ok (.invokestatic 44, 3) := by decide +kernel
theorem dX8_bestPeriod_8 : decode cX8_bestPeriod 8 = .ok (.ifCond .ne 7, 3) := by decide +kernel
theorem dX8_bestPeriod_11 : decode cX8_bestPeriod 11 = .ok (.sipush (-1001), 3) := by decide +kernel
theorem dX8_bestPeriod_14 : decode cX8_bestPeriod 14 = .ok (.ireturn, 1) := by decide +kernel
theorem dX8_bestPeriod_15 : decode cX8_bestPeriod 15 = .ok (.aload_n 0, 1) := by decide +kernel
theorem dX8_bestPeriod_16 : decode cX8_bestPeriod 16 = .ok (.iconst (-1), 1) := by decide +kernel
theorem dX8_bestPeriod_17 : decode cX8_bestPeriod 17 = .ok (.invokevirtual 203, 3) := by decide +kernel
theorem dX8_bestPeriod_20 : decode cX8_bestPeriod 20 = .ok (.astore_n 3, 1) := by decide +kernel
theorem dX8_bestPeriod_21 : decode cX8_bestPeriod 21 = .ok (.aload_n 3, 1) := by decide +kernel
theorem dX8_bestPeriod_22 : decode cX8_bestPeriod 22 = .ok (.invokevirtual 207, 3) := by decide +kernel
theorem dX8_bestPeriod_25 : decode cX8_bestPeriod 25 = .ok (.ifCond .ne 7, 3) := by decide +kernel
theorem dX8_bestPeriod_28 : decode cX8_bestPeriod 28 = .ok (.sipush (-1004), 3) := by decide +kernel
theorem dX8_bestPeriod_31 : decode cX8_bestPeriod 31 = .ok (.ireturn, 1) := by decide +kernel
theorem dX8_bestPeriod_32 : decode cX8_bestPeriod 32 = .ok (.aload_n 3, 1) := by decide +kernel
theorem dX8_bestPeriod_33 : decode cX8_bestPeriod 33 = .ok (.invokevirtual 220, 3) := by decide +kernel
theorem dX8_bestPeriod_36 : decode cX8_bestPeriod 36 = .ok (.iconst 1, 1) := by decide +kernel
theorem dX8_bestPeriod_37 : decode cX8_bestPeriod 37 = .ok (.istore 4, 2) := by decide +kernel
theorem dX8_bestPeriod_39 : decode cX8_bestPeriod 39 = .ok (.aload_n 3, 1) := by decide +kernel
theorem dX8_bestPeriod_40 : decode cX8_bestPeriod 40 = .ok (.iconst 1, 1) := by decide +kernel
theorem dX8_bestPeriod_41 : decode cX8_bestPeriod 41 = .ok (.invokevirtual 223, 3) := by decide +kernel
theorem dX8_bestPeriod_44 : decode cX8_bestPeriod 44 = .ok (.istore 5, 2) := by decide +kernel
theorem dX8_bestPeriod_46 : decode cX8_bestPeriod 46 = .ok (.iconst 2, 1) := by decide +kernel
theorem dX8_bestPeriod_47 : decode cX8_bestPeriod 47 = .ok (.istore 6, 2) := by decide +kernel
theorem dX8_bestPeriod_49 : decode cX8_bestPeriod 49 = .ok (.iload 6, 2) := by decide +kernel
theorem dX8_bestPeriod_51 : decode cX8_bestPeriod 51 = .ok (.iload_n 1, 1) := by decide +kernel
theorem dX8_bestPeriod_52 : decode cX8_bestPeriod 52 = .ok (.if_icmp .gt 32, 3) := by decide +kernel
theorem dX8_bestPeriod_55 : decode cX8_bestPeriod 55 = .ok (.aload_n 3, 1) := by decide +kernel
theorem dX8_bestPeriod_56 : decode cX8_bestPeriod 56 = .ok (.iload 6, 2) := by decide +kernel
theorem dX8_bestPeriod_58 : decode cX8_bestPeriod 58 = .ok (.invokevirtual 223, 3) := by decide +kernel
theorem dX8_bestPeriod_61 : decode cX8_bestPeriod 61 = .ok (.istore 7, 2) := by decide +kernel
theorem dX8_bestPeriod_63 : decode cX8_bestPeriod 63 = .ok (.iload 7, 2) := by decide +kernel
theorem dX8_bestPeriod_65 : decode cX8_bestPeriod 65 = .ok (.iload 5, 2) := by decide +kernel
theorem dX8_bestPeriod_67 : decode cX8_bestPeriod 67 = .ok (.if_icmp .ge 11, 3) := by decide +kernel
theorem dX8_bestPeriod_70 : decode cX8_bestPeriod 70 = .ok (.iload 7, 2) := by decide +kernel
theorem dX8_bestPeriod_72 : decode cX8_bestPeriod 72 = .ok (.istore 5, 2) := by decide +kernel
theorem dX8_bestPeriod_74 : decode cX8_bestPeriod 74 = .ok (.iload 6, 2) := by decide +kernel
theorem dX8_bestPeriod_76 : decode cX8_bestPeriod 76 = .ok (.istore 4, 2) := by decide +kernel
theorem dX8_bestPeriod_78 : decode cX8_bestPeriod 78 = .ok (.iinc 6 1, 3) := by decide +kernel
theorem dX8_bestPeriod_81 : decode cX8_bestPeriod 81 = .ok (.goto (-32), 3) := by decide +kernel
theorem dX8_bestPeriod_84 : decode cX8_bestPeriod 84 = .ok (.iload_n 2, 1) := by decide +kernel
theorem dX8_bestPeriod_85 : decode cX8_bestPeriod 85 = .ok (.ifCond .eq 8, 3) := by decide +kernel
theorem dX8_bestPeriod_88 : decode cX8_bestPeriod 88 = .ok (.iload 5, 2) := by decide +kernel
theorem dX8_bestPeriod_90 : decode cX8_bestPeriod 90 = .ok (.goto 5, 3) := by decide +kernel
theorem dX8_bestPeriod_93 : decode cX8_bestPeriod 93 = .ok (.iload 4, 2) := by decide +kernel
theorem dX8_bestPeriod_95 : decode cX8_bestPeriod 95 = .ok (.ireturn, 1) := by decide +kernel
theorem dX8_setDisc_0 : decode cX8_setDisc 0 = .ok (.iload_n 1, 1) := by decide +kernel
theorem dX8_setDisc_1 : decode cX8_setDisc 1 = .ok (.iconst 1, 1) := by decide +kernel
theorem dX8_setDisc_2 : decode cX8_setDisc 2 = .ok (.bipush 30, 2) := by decide +kernel
theorem dX8_setDisc_4 : decode cX8_setDisc 4 = .ok (.invokestatic 44, 3) := by decide +kernel
theorem dX8_setDisc_7 : decode cX8_setDisc 7 = .ok (.ifCond .eq 16, 3) := by decide +kernel
theorem dX8_setDisc_10 : decode cX8_setDisc 10 = .ok (.iload_n 2, 1) := by decide +kernel
theorem dX8_setDisc_11 : decode cX8_setDisc 11 = .ok (.iconst 0, 1) := by decide +kernel
theorem dX8_setDisc_12 : decode cX8_setDisc 12 = .ok (.iconst 1, 1) := by decide +kernel
theorem dX8_setDisc_13 : decode cX8_setDisc 13 = .ok (.iload_n 1, 1) := by decide +kernel
theorem dX8_setDisc_14 : decode cX8_setDisc 14 = .ok (.ishl, 1) := by decide +kernel
theorem dX8_setDisc_15 : decode cX8_setDisc 15 = .ok (.iconst 1, 1) := by decide +kernel
theorem dX8_setDisc_16 : decode cX8_setDisc 16 = .ok (.isub, 1) := by decide +kernel
theorem dX8_setDisc_17 : decode cX8_setDisc 17 = .ok (.invokestatic 44, 3) := by decide +kernel
theorem dX8_setDisc_20 : decode cX8_setDisc 20 = .ok (.ifCond .ne 7, 3) := by decide +kernel
theorem dX8_setDisc_23 : decode cX8_setDisc 23 = .ok (.sipush (-1001), 3) := by decide +kernel
theorem dX8_setDisc_26 : decode cX8_setDisc 26 = .ok (.ireturn, 1) := by decide +kernel
theorem dX8_setDisc_27 : decode cX8_setDisc 27 = .ok (.aload_n 0, 1) := by decide +kernel
theorem dX8_setDisc_28 : decode cX8_setDisc 28 = .ok (.getfield 19, 3) := by decide +kernel
theorem dX8_setDisc_31 : decode cX8_setDisc 31 = .ok (.aload_n 0, 1) := by decide +kernel
theorem dX8_setDisc_32 : decode cX8_setDisc 32 = .ok (.getfield 10, 3) := by decide +kernel
theorem dX8_setDisc_35 : decode cX8_setDisc 35 = .ok (.invokevirtual 63, 3) := by decide +kernel
theorem dX8_setDisc_38 : decode cX8_setDisc 38 = .ok (.aload_n 0, 1) := by decide +kernel
theorem dX8_setDisc_39 : decode cX8_setDisc 39 = .ok (.getfield 10, 3) := by decide +kernel
theorem dX8_setDisc_42 : decode cX8_setDisc 42 = .ok (.getfield 226, 3) := by decide +kernel
theorem dX8_setDisc_45 : decode cX8_setDisc 45 = .ok (.iload_n 1, 1) := by decide +kernel
theorem dX8_setDisc_46 : decode cX8_setDisc 46 = .ok (.putfield 230, 3) := by decide +kernel
theorem dX8_setDisc_49 : decode cX8_setDisc 49 = .ok (.aload_n 0, 1) := by decide +kernel
theorem dX8_setDisc_50 : decode cX8_setDisc 50 = .ok (.getfield 10, 3) := by decide +kernel
theorem dX8_setDisc_53 : decode cX8_setDisc 53 = .ok (.getfield 226, 3) := by decide +kernel
theorem dX8_setDisc_56 : decode cX8_setDisc 56 = .ok (.iload_n 2, 1) := by decide +kernel
theorem dX8_setDisc_57 : decode cX8_setDisc 57 = .ok (.putfield 233, 3) := by decide +kernel
theorem dX8_setDisc_60 : decode cX8_setDisc 60 = .ok (.iload_n 2, 1) := by decide +kernel
theorem dX8_setDisc_61 : decode cX8_setDisc 61 = .ok (.invokestatic 236, 3) := by decide +kernel
theorem dX8_setDisc_64 : decode cX8_setDisc 64 = .ok (.ireturn, 1) := by decide +kernel
theorem dX8_turnDisc_0 : decode cX8_turnDisc 0 = .ok (.iload_n 1, 1) := by decide +kernel
theorem dX8_turnDisc_1 : decode cX8_turnDisc 1 = .ok (.iconst 0, 1) := by decide +kernel
theorem dX8_turnDisc_2 : decode cX8_turnDisc 2 = .ok (.bipush 29, 2) := by decide +kernel
theorem dX8_turnDisc_4 : decode cX8_turnDisc 4 = .ok (.invokestatic 44, 3) := by decide +kernel
theorem dX8_turnDisc_7 : decode cX8_turnDisc 7 = .ok (.ifCond .eq 16, 3) := by decide +kernel
theorem dX8_turnDisc_10 : decode cX8_turnDisc 10 = .ok (.iload_n 2, 1) := by decide +kernel
theorem dX8_turnDisc_11 : decode cX8_turnDisc 11 = .ok (.sipush (-1000), 3) := by decide +kernel
theorem dX8_turnDisc_14 : decode cX8_turnDisc 14 = .ok (.sipush 1000, 3) := by decide +kernel
theorem dX8_turnDisc_17 : decode cX8_turnDisc 17 = .ok (.invokestatic 44, 3) := by decide +kernel
theorem dX8_turnDisc_20 : decode cX8_turnDisc 20 = .ok (.ifCond .ne 7, 3) := by decide +kernel
theorem dX8_turnDisc_23 : decode cX8_turnDisc 23 = .ok (.sipush (-1001), 3) := by decide +kernel
theorem dX8_turnDisc_26 : decode cX8_turnDisc 26 = .ok (.ireturn, 1) := by decide +kernel
theorem dX8_turnDisc_27 : decode cX8_turnDisc 27 = .ok (.aload_n 0, 1) := by decide +kernel
theorem dX8_turnDisc_28 : decode cX8_turnDisc 28 = .ok (.getfield 19, 3) := by decide +kernel
theorem dX8_turnDisc_31 : decode cX8_turnDisc 31 = .ok (.aload_n 0, 1) := by decide +kernel
theorem dX8_turnDisc_32 : decode cX8_turnDisc 32 = .ok (.getfield 10, 3) := by decide +kernel
theorem dX8_turnDisc_35 : decode cX8_turnDisc 35 = .ok (.invokevirtual 63, 3) := by decide +kernel
theorem dX8_turnDisc_38 : decode cX8_turnDisc 38 = .ok (.aload_n 0, 1) := by decide +kernel
theorem dX8_turnDisc_39 : decode cX8_turnDisc 39 = .ok (.getfield 10, 3) := by decide +kernel
theorem dX8_turnDisc_42 : decode cX8_turnDisc 42 = .ok (.getfield 226, 3) := by decide +kernel
theorem dX8_turnDisc_45 : decode cX8_turnDisc 45 = .ok (.getfield 241, 3) := by decide +kernel
theorem dX8_turnDisc_48 : decode cX8_turnDisc 48 = .ok (.istore_n 3, 1) := by decide +kernel
theorem dX8_turnDisc_49 : decode cX8_turnDisc 49 = .ok (.aload_n 0, 1) := by decide +kernel
theorem dX8_turnDisc_50 : decode cX8_turnDisc 50 = .ok (.getfield 10, 3) := by decide +kernel
theorem dX8_turnDisc_53 : decode cX8_turnDisc 53 = .ok (.getfield 226, 3) := by decide +kernel
theorem dX8_turnDisc_56 : decode cX8_turnDisc 56 = .ok (.iload_n 1, 1) := by decide +kernel
theorem dX8_turnDisc_57 : decode cX8_turnDisc 57 = .ok (.putfield 242, 3) := by decide +kernel
theorem dX8_turnDisc_60 : decode cX8_turnDisc 60 = .ok (.aload_n 0, 1) := by decide +kernel
theorem dX8_turnDisc_61 : decode cX8_turnDisc 61 = .ok (.getfield 10, 3) := by decide +kernel
theorem dX8_turnDisc_64 : decode cX8_turnDisc 64 = .ok (.getfield 226, 3) := by decide +kernel
theorem dX8_turnDisc_67 : decode cX8_turnDisc 67 = .ok (.iload_n 2, 1) := by decide +kernel
theorem dX8_turnDisc_68 : decode cX8_turnDisc 68 = .ok (.putfield 241, 3) := by decide +kernel
theorem dX8_turnDisc_71 : decode cX8_turnDisc 71 = .ok (.iload_n 3, 1) := by decide +kernel
theorem dX8_turnDisc_72 : decode cX8_turnDisc 72 = .ok (.ireturn, 1) := by decide +kernel
theorem dX8_isSeen_0 : decode cX8_isSeen 0 = .ok (.iload_n 1, 1) := by decide +kernel
theorem dX8_isSeen_1 : decode cX8_isSeen 1 = .ok (.invokestatic 99, 3) := by decide +kernel
theorem dX8_isSeen_4 : decode cX8_isSeen 4 = .ok (.ifCond .ne 7, 3) := by decide +kernel
theorem dX8_isSeen_7 : decode cX8_isSeen 7 = .ok (.sipush (-1001), 3) := by decide +kernel
theorem dX8_isSeen_10 : decode cX8_isSeen 10 = .ok (.ireturn, 1) := by decide +kernel
theorem dX8_isSeen_11 : decode cX8_isSeen 11 = .ok (.aload_n 0, 1) := by decide +kernel
theorem dX8_isSeen_12 : decode cX8_isSeen 12 = .ok (.getfield 10, 3) := by decide +kernel
theorem dX8_isSeen_15 : decode cX8_isSeen 15 = .ok (.getfield 226, 3) := by decide +kernel
theorem dX8_isSeen_18 : decode cX8_isSeen 18 = .ok (.iload_n 1, 1) := by decide +kernel
theorem dX8_isSeen_19 : decode cX8_isSeen 19 = .ok (.invokevirtual 243, 3) := by decide +kernel
theorem dX8_isSeen_22 : decode cX8_isSeen 22 = .ok (.ifCond .eq 7, 3) := by decide +kernel
theorem dX8_isSeen_25 : decode cX8_isSeen 25 = .ok (.iconst 1, 1) := by decide +kernel
theorem dX8_isSeen_26 : decode cX8_isSeen 26 = .ok (.goto 4, 3) := by decide +kernel
theorem dX8_isSeen_29 : decode cX8_isSeen 29 = .ok (.iconst 0, 1) := by decide +kernel
theorem dX8_isSeen_30 : decode cX8_isSeen 30 = .ok (.ireturn, 1) := by decide +kernel
theorem dX8_opening_0 : decode cX8_opening 0 = .ok (.iload_n 1, 1) := by decide +kernel
theorem dX8_opening_1 : decode cX8_opening 1 = .ok (.ifCond .lt 12, 3) := by decide +kernel
theorem dX8_opening_4 : decode cX8_opening 4 = .ok (.iload_n 2, 1) := by decide +kernel
theorem dX8_opening_5 : decode cX8_opening 5 = .ok (.iconst 0, 1) := by decide +kernel
theorem dX8_opening_6 : decode cX8_opening 6 = .ok (.iconst 3, 1) := by decide +kernel
theorem dX8_opening_7 : decode cX8_opening 7 = .ok (.invokestatic 44, 3) := by decide +kernel
theorem dX8_opening_10 : decode cX8_opening 10 = .ok (.ifCond .ne 7, 3) := by decide +kernel
theorem dX8_opening_13 : decode cX8_opening 13 = .ok (.sipush (-1001), 3) := by decide +kernel
theorem dX8_opening_16 : decode cX8_opening 16 = .ok (.ireturn, 1) := by decide +kernel
theorem dX8_opening_17 : decode cX8_opening 17 = .ok (.aload_n 0, 1) := by decide +kernel
theorem dX8_opening_18 : decode cX8_opening 18 = .ok (.getfield 10, 3) := by decide +kernel
theorem dX8_opening_21 : decode cX8_opening 21 = .ok (.getfield 226, 3) := by decide +kernel
theorem dX8_opening_24 : decode cX8_opening 24 = .ok (.iload_n 1, 1) := by decide +kernel
theorem dX8_opening_25 : decode cX8_opening 25 = .ok (.invokevirtual 246, 3) := by decide +kernel
theorem dX8_opening_28 : decode cX8_opening 28 = .ok (.istore_n 3, 1) := by decide +kernel
theorem dX8_opening_29 : decode cX8_opening 29 = .ok (.iload_n 3, 1) := by decide +kernel
theorem dX8_opening_30 : decode cX8_opening 30 = .ok (.ifCond .ge 7, 3) := by decide +kernel
theorem dX8_opening_33 : decode cX8_opening 33 = .ok (.sipush (-1004), 3) := by decide +kernel
theorem dX8_opening_36 : decode cX8_opening 36 = .ok (.ireturn, 1) := by decide +kernel
theorem dX8_opening_37 : decode cX8_opening 37 = .ok (.aload_n 0, 1) := by decide +kernel
theorem dX8_opening_38 : decode cX8_opening 38 = .ok (.getfield 10, 3) := by decide +kernel
theorem dX8_opening_41 : decode cX8_opening 41 = .ok (.getfield 226, 3) := by decide +kernel
theorem dX8_opening_44 : decode cX8_opening 44 = .ok (.iload_n 3, 1) := by decide +kernel
theorem dX8_opening_45 : decode cX8_opening 45 = .ok (.invokevirtual 249, 3) := by decide +kernel
theorem dX8_opening_48 : decode cX8_opening 48 = .ok (.istore 4, 2) := by decide +kernel
theorem dX8_opening_50 : decode cX8_opening 50 = .ok (.iload_n 2, 1) := by decide +kernel
theorem dX8_opening_51 : decode cX8_opening 51 = .ok (.tableswitch 44 0 2 #[25, 27, 30], 25) := by decide +kernel
theorem dX8_opening_76 : decode cX8_opening 76 = .ok (.iload_n 3, 1) := by decide +kernel
theorem dX8_opening_77 : decode cX8_opening 77 = .ok (.ireturn, 1) := by decide +kernel
theorem dX8_opening_78 : decode cX8_opening 78 = .ok (.iload 4, 2) := by decide +kernel
theorem dX8_opening_80 : decode cX8_opening 80 = .ok (.ireturn, 1) := by decide +kernel
theorem dX8_opening_81 : decode cX8_opening 81 = .ok (.aload_n 0, 1) := by decide +kernel
theorem dX8_opening_82 : decode cX8_opening 82 = .ok (.getfield 10, 3) := by decide +kernel
theorem dX8_opening_85 : decode cX8_opening 85 = .ok (.getfield 67, 3) := by decide +kernel
theorem dX8_opening_88 : decode cX8_opening 88 = .ok (.iload_n 3, 1) := by decide +kernel
theorem dX8_opening_89 : decode cX8_opening 89 = .ok (.iload 4, 2) := by decide +kernel
theorem dX8_opening_91 : decode cX8_opening 91 = .ok (.invokevirtual 252, 3) := by decide +kernel
theorem dX8_opening_94 : decode cX8_opening 94 = .ok (.ireturn, 1) := by decide +kernel
theorem dX8_opening_95 : decode cX8_opening 95 = .ok (.aload_n 0, 1) := by decide +kernel
theorem dX8_opening_96 : decode cX8_opening 96 = .ok (.getfield 10, 3) := by decide +kernel
theorem dX8_opening_99 : decode cX8_opening 99 = .ok (.getfield 67, 3) := by decide +kernel
theorem dX8_opening_102 : decode cX8_opening 102 = .ok (.iload_n 3, 1) := by decide +kernel
theorem dX8_opening_103 : decode cX8_opening 103 = .ok (.iload 4, 2) := by decide +kernel
theorem dX8_opening_105 : decode cX8_opening 105 = .ok (.invokevirtual 255, 3) := by decide +kernel
theorem dX8_opening_108 : decode cX8_opening 108 = .ok (.ifCond .eq 7, 3) := by decide +kernel
theorem dX8_opening_111 : decode cX8_opening 111 = .ok (.iconst 1, 1) := by decide +kernel
theorem dX8_opening_112 : decode cX8_opening 112 = .ok (.goto 4, 3) := by decide +kernel
theorem dX8_opening_115 : decode cX8_opening 115 = .ok (.iconst 0, 1) := by decide +kernel
theorem dX8_opening_116 : decode cX8_opening 116 = .ok (.ireturn, 1) := by decide +kernel
theorem dX8_smear_0 : decode cX8_smear 0 = .ok (.iload_n 1, 1) := by decide +kernel
theorem dX8_smear_1 : decode cX8_smear 1 = .ok (.ifCond .lt 11, 3) := by decide +kernel
theorem dX8_smear_4 : decode cX8_smear 4 = .ok (.aload_n 0, 1) := by decide +kernel
theorem dX8_smear_5 : decode cX8_smear 5 = .ok (.iload_n 2, 1) := by decide +kernel
theorem dX8_smear_6 : decode cX8_smear 6 = .ok (.invokevirtual 80, 3) := by decide +kernel
theorem dX8_smear_9 : decode cX8_smear 9 = .ok (.ifCond .ne 7, 3) := by decide +kernel
theorem dX8_smear_12 : decode cX8_smear 12 = .ok (.sipush (-1001), 3) := by decide +kernel
theorem dX8_smear_15 : decode cX8_smear 15 = .ok (.ireturn, 1) := by decide +kernel
theorem dX8_smear_16 : decode cX8_smear 16 = .ok (.aload_n 0, 1) := by decide +kernel
theorem dX8_smear_17 : decode cX8_smear 17 = .ok (.getfield 10, 3) := by decide +kernel
theorem dX8_smear_20 : decode cX8_smear 20 = .ok (.getfield 226, 3) := by decide +kernel
theorem dX8_smear_23 : decode cX8_smear 23 = .ok (.iload_n 1, 1) := by decide +kernel
theorem dX8_smear_24 : decode cX8_smear 24 = .ok (.invokevirtual 246, 3) := by decide +kernel
theorem dX8_smear_27 : decode cX8_smear 27 = .ok (.istore_n 3, 1) := by decide +kernel
theorem dX8_smear_28 : decode cX8_smear 28 = .ok (.iload_n 3, 1) := by decide +kernel
theorem dX8_smear_29 : decode cX8_smear 29 = .ok (.ifCond .ge 7, 3) := by decide +kernel
theorem dX8_smear_32 : decode cX8_smear 32 = .ok (.sipush (-1004), 3) := by decide +kernel
theorem dX8_smear_35 : decode cX8_smear 35 = .ok (.ireturn, 1) := by decide +kernel
theorem dX8_smear_36 : decode cX8_smear 36 = .ok (.aload_n 0, 1) := by decide +kernel
theorem dX8_smear_37 : decode cX8_smear 37 = .ok (.getfield 10, 3) := by decide +kernel
theorem dX8_smear_40 : decode cX8_smear 40 = .ok (.getfield 67, 3) := by decide +kernel
theorem dX8_smear_43 : decode cX8_smear 43 = .ok (.aload_n 0, 1) := by decide +kernel
theorem dX8_smear_44 : decode cX8_smear 44 = .ok (.getfield 10, 3) := by decide +kernel
theorem dX8_smear_47 : decode cX8_smear 47 = .ok (.getfield 67, 3) := by decide +kernel
theorem dX8_smear_50 : decode cX8_smear 50 = .ok (.getfield 74, 3) := by decide +kernel
theorem dX8_smear_53 : decode cX8_smear 53 = .ok (.iload_n 3, 1) := by decide +kernel
theorem dX8_smear_54 : decode cX8_smear 54 = .ok (.aload_n 0, 1) := by decide +kernel
theorem dX8_smear_55 : decode cX8_smear 55 = .ok (.getfield 10, 3) := by decide +kernel
theorem dX8_smear_58 : decode cX8_smear 58 = .ok (.getfield 226, 3) := by decide +kernel
theorem dX8_smear_61 : decode cX8_smear 61 = .ok (.iload_n 3, 1) := by decide +kernel
theorem dX8_smear_62 : decode cX8_smear 62 = .ok (.invokevirtual 249, 3) := by decide +kernel
theorem dX8_smear_65 : decode cX8_smear 65 = .ok (.iconst 1, 1) := by decide +kernel
theorem dX8_smear_66 : decode cX8_smear 66 = .ok (.invokevirtual 259, 3) := by decide +kernel
theorem dX8_smear_69 : decode cX8_smear 69 = .ok (.lstore 4, 2) := by decide +kernel
theorem dX8_smear_71 : decode cX8_smear 71 = .ok (.aload_n 0, 1) := by decide +kernel
theorem dX8_smear_72 : decode cX8_smear 72 = .ok (.getfield 10, 3) := by decide +kernel
theorem dX8_smear_75 : decode cX8_smear 75 = .ok (.getfield 67, 3) := by decide +kernel
theorem dX8_smear_78 : decode cX8_smear 78 = .ok (.iload_n 2, 1) := by decide +kernel
theorem dX8_smear_79 : decode cX8_smear 79 = .ok (.lload 4, 2) := by decide +kernel
theorem dX8_smear_81 : decode cX8_smear 81 = .ok (.invokevirtual 263, 3) := by decide +kernel
theorem dX8_smear_84 : decode cX8_smear 84 = .ok (.ireturn, 1) := by decide +kernel
theorem dX8_undo_0 : decode cX8_undo 0 = .ok (.aload_n 0, 1) := by decide +kernel
theorem dX8_undo_1 : decode cX8_undo 1 = .ok (.getfield 19, 3) := by decide +kernel
theorem dX8_undo_4 : decode cX8_undo 4 = .ok (.getfield 267, 3) := by decide +kernel
theorem dX8_undo_7 : decode cX8_undo 7 = .ok (.ifCond .ne 7, 3) := by decide +kernel
theorem dX8_undo_10 : decode cX8_undo 10 = .ok (.sipush (-1002), 3) := by decide +kernel
theorem dX8_undo_13 : decode cX8_undo 13 = .ok (.ireturn, 1) := by decide +kernel
theorem dX8_undo_14 : decode cX8_undo 14 = .ok (.aload_n 0, 1) := by decide +kernel
theorem dX8_undo_15 : decode cX8_undo 15 = .ok (.getfield 19, 3) := by decide +kernel
theorem dX8_undo_18 : decode cX8_undo 18 = .ok (.aload_n 0, 1) := by decide +kernel
theorem dX8_undo_19 : decode cX8_undo 19 = .ok (.getfield 10, 3) := by decide +kernel
theorem dX8_undo_22 : decode cX8_undo 22 = .ok (.invokevirtual 268, 3) := by decide +kernel
theorem dX8_undo_25 : decode cX8_undo 25 = .ok (.aload_n 0, 1) := by decide +kernel
theorem dX8_undo_26 : decode cX8_undo 26 = .ok (.getfield 19, 3) := by decide +kernel
theorem dX8_undo_29 : decode cX8_undo 29 = .ok (.getfield 267, 3) := by decide +kernel
theorem dX8_undo_32 : decode cX8_undo 32 = .ok (.ireturn, 1) := by decide +kernel
theorem dX8_count_0 : decode cX8_count 0 = .ok (.iload_n 1, 1) := by decide +kernel
theorem dX8_count_1 : decode cX8_count 1 = .ok (.tableswitch 279 0 17 #[87, 98, 109, 120, 131, 142, 153, 164, 175, 186, 197, 208, 219, 230, 241, 252, 263, 271], 87) := by decide +kernel
theorem dX8_count_88 : decode cX8_count 88 = .ok (.aload_n 0, 1) := by decide +kernel
theorem dX8_count_89 : decode cX8_count 89 = .ok (.getfield 10, 3) := by decide +kernel
theorem dX8_count_92 : decode cX8_count 92 = .ok (.getfield 67, 3) := by decide +kernel
theorem dX8_count_95 : decode cX8_count 95 = .ok (.getfield 74, 3) := by decide +kernel
theorem dX8_count_98 : decode cX8_count 98 = .ok (.ireturn, 1) := by decide +kernel
theorem dX8_count_99 : decode cX8_count 99 = .ok (.aload_n 0, 1) := by decide +kernel
theorem dX8_count_100 : decode cX8_count 100 = .ok (.getfield 10, 3) := by decide +kernel
theorem dX8_count_103 : decode cX8_count 103 = .ok (.getfield 67, 3) := by decide +kernel
theorem dX8_count_106 : decode cX8_count 106 = .ok (.invokevirtual 271, 3) := by decide +kernel
theorem dX8_count_109 : decode cX8_count 109 = .ok (.ireturn, 1) := by decide +kernel
theorem dX8_count_110 : decode cX8_count 110 = .ok (.aload_n 0, 1) := by decide +kernel
theorem dX8_count_111 : decode cX8_count 111 = .ok (.getfield 10, 3) := by decide +kernel
theorem dX8_count_114 : decode cX8_count 114 = .ok (.getfield 67, 3) := by decide +kernel
theorem dX8_count_117 : decode cX8_count 117 = .ok (.invokevirtual 156, 3) := by decide +kernel
theorem dX8_count_120 : decode cX8_count 120 = .ok (.ireturn, 1) := by decide +kernel
theorem dX8_count_121 : decode cX8_count 121 = .ok (.aload_n 0, 1) := by decide +kernel
theorem dX8_count_122 : decode cX8_count 122 = .ok (.getfield 10, 3) := by decide +kernel
theorem dX8_count_125 : decode cX8_count 125 = .ok (.getfield 67, 3) := by decide +kernel
theorem dX8_count_128 : decode cX8_count 128 = .ok (.getfield 96, 3) := by decide +kernel
theorem dX8_count_131 : decode cX8_count 131 = .ok (.ireturn, 1) := by decide +kernel
theorem dX8_count_132 : decode cX8_count 132 = .ok (.aload_n 0, 1) := by decide +kernel
theorem dX8_count_133 : decode cX8_count 133 = .ok (.getfield 10, 3) := by decide +kernel
theorem dX8_count_136 : decode cX8_count 136 = .ok (.getfield 67, 3) := by decide +kernel
theorem dX8_count_139 : decode cX8_count 139 = .ok (.getfield 169, 3) := by decide +kernel
theorem dX8_count_142 : decode cX8_count 142 = .ok (.ireturn, 1) := by decide +kernel
theorem dX8_count_143 : decode cX8_count 143 = .ok (.aload_n 0, 1) := by decide +kernel
theorem dX8_count_144 : decode cX8_count 144 = .ok (.getfield 10, 3) := by decide +kernel
theorem dX8_count_147 : decode cX8_count 147 = .ok (.getfield 67, 3) := by decide +kernel
theorem dX8_count_150 : decode cX8_count 150 = .ok (.getfield 109, 3) := by decide +kernel
theorem dX8_count_153 : decode cX8_count 153 = .ok (.ireturn, 1) := by decide +kernel
theorem dX8_count_154 : decode cX8_count 154 = .ok (.aload_n 0, 1) := by decide +kernel
theorem dX8_count_155 : decode cX8_count 155 = .ok (.getfield 10, 3) := by decide +kernel
theorem dX8_count_158 : decode cX8_count 158 = .ok (.getfield 125, 3) := by decide +kernel
theorem dX8_count_161 : decode cX8_count 161 = .ok (.getfield 129, 3) := by decide +kernel
theorem dX8_count_164 : decode cX8_count 164 = .ok (.ireturn, 1) := by decide +kernel
theorem dX8_count_165 : decode cX8_count 165 = .ok (.aload_n 0, 1) := by decide +kernel
theorem dX8_count_166 : decode cX8_count 166 = .ok (.getfield 10, 3) := by decide +kernel
theorem dX8_count_169 : decode cX8_count 169 = .ok (.getfield 125, 3) := by decide +kernel
theorem dX8_count_172 : decode cX8_count 172 = .ok (.getfield 134, 3) := by decide +kernel
theorem dX8_count_175 : decode cX8_count 175 = .ok (.ireturn, 1) := by decide +kernel
theorem dX8_count_176 : decode cX8_count 176 = .ok (.aload_n 0, 1) := by decide +kernel
theorem dX8_count_177 : decode cX8_count 177 = .ok (.getfield 10, 3) := by decide +kernel
theorem dX8_count_180 : decode cX8_count 180 = .ok (.getfield 125, 3) := by decide +kernel
theorem dX8_count_183 : decode cX8_count 183 = .ok (.invokevirtual 137, 3) := by decide +kernel
theorem dX8_count_186 : decode cX8_count 186 = .ok (.ireturn, 1) := by decide +kernel
theorem dX8_count_187 : decode cX8_count 187 = .ok (.aload_n 0, 1) := by decide +kernel
theorem dX8_count_188 : decode cX8_count 188 = .ok (.getfield 10, 3) := by decide +kernel
theorem dX8_count_191 : decode cX8_count 191 = .ok (.getfield 181, 3) := by decide +kernel
theorem dX8_count_194 : decode cX8_count 194 = .ok (.getfield 190, 3) := by decide +kernel
theorem dX8_count_197 : decode cX8_count 197 = .ok (.ireturn, 1) := by decide +kernel
theorem dX8_count_198 : decode cX8_count 198 = .ok (.aload_n 0, 1) := by decide +kernel
theorem dX8_count_199 : decode cX8_count 199 = .ok (.getfield 10, 3) := by decide +kernel
theorem dX8_count_202 : decode cX8_count 202 = .ok (.getfield 181, 3) := by decide +kernel
theorem dX8_count_205 : decode cX8_count 205 = .ok (.getfield 208, 3) := by decide +kernel
theorem dX8_count_208 : decode cX8_count 208 = .ok (.ireturn, 1) := by decide +kernel
theorem dX8_count_209 : decode cX8_count 209 = .ok (.aload_n 0, 1) := by decide +kernel
theorem dX8_count_210 : decode cX8_count 210 = .ok (.getfield 10, 3) := by decide +kernel
theorem dX8_count_213 : decode cX8_count 213 = .ok (.getfield 226, 3) := by decide +kernel
theorem dX8_count_216 : decode cX8_count 216 = .ok (.getfield 230, 3) := by decide +kernel
theorem dX8_count_219 : decode cX8_count 219 = .ok (.ireturn, 1) := by decide +kernel
theorem dX8_count_220 : decode cX8_count 220 = .ok (.aload_n 0, 1) := by decide +kernel
theorem dX8_count_221 : decode cX8_count 221 = .ok (.getfield 10, 3) := by decide +kernel
theorem dX8_count_224 : decode cX8_count 224 = .ok (.getfield 226, 3) := by decide +kernel
theorem dX8_count_227 : decode cX8_count 227 = .ok (.getfield 233, 3) := by decide +kernel
theorem dX8_count_230 : decode cX8_count 230 = .ok (.ireturn, 1) := by decide +kernel
theorem dX8_count_231 : decode cX8_count 231 = .ok (.aload_n 0, 1) := by decide +kernel
theorem dX8_count_232 : decode cX8_count 232 = .ok (.getfield 10, 3) := by decide +kernel
theorem dX8_count_235 : decode cX8_count 235 = .ok (.getfield 226, 3) := by decide +kernel
theorem dX8_count_238 : decode cX8_count 238 = .ok (.getfield 242, 3) := by decide +kernel
theorem dX8_count_241 : decode cX8_count 241 = .ok (.ireturn, 1) := by decide +kernel
theorem dX8_count_242 : decode cX8_count 242 = .ok (.aload_n 0, 1) := by decide +kernel
theorem dX8_count_243 : decode cX8_count 243 = .ok (.getfield 10, 3) := by decide +kernel
theorem dX8_count_246 : decode cX8_count 246 = .ok (.getfield 226, 3) := by decide +kernel
theorem dX8_count_249 : decode cX8_count 249 = .ok (.getfield 241, 3) := by decide +kernel
theorem dX8_count_252 : decode cX8_count 252 = .ok (.ireturn, 1) := by decide +kernel
theorem dX8_count_253 : decode cX8_count 253 = .ok (.aload_n 0, 1) := by decide +kernel
theorem dX8_count_254 : decode cX8_count 254 = .ok (.getfield 10, 3) := by decide +kernel
theorem dX8_count_257 : decode cX8_count 257 = .ok (.getfield 226, 3) := by decide +kernel
theorem dX8_count_260 : decode cX8_count 260 = .ok (.invokevirtual 274, 3) := by decide +kernel
theorem dX8_count_263 : decode cX8_count 263 = .ok (.ireturn, 1) := by decide +kernel
theorem dX8_count_264 : decode cX8_count 264 = .ok (.aload_n 0, 1) := by decide +kernel
theorem dX8_count_265 : decode cX8_count 265 = .ok (.getfield 26, 3) := by decide +kernel
theorem dX8_count_268 : decode cX8_count 268 = .ok (.getfield 48, 3) := by decide +kernel
theorem dX8_count_271 : decode cX8_count 271 = .ok (.ireturn, 1) := by decide +kernel
theorem dX8_count_272 : decode cX8_count 272 = .ok (.aload_n 0, 1) := by decide +kernel
theorem dX8_count_273 : decode cX8_count 273 = .ok (.getfield 19, 3) := by decide +kernel
theorem dX8_count_276 : decode cX8_count 276 = .ok (.getfield 267, 3) := by decide +kernel
theorem dX8_count_279 : decode cX8_count 279 = .ok (.ireturn, 1) := by decide +kernel
theorem dX8_count_280 : decode cX8_count 280 = .ok (.sipush (-1001), 3) := by decide +kernel
theorem dX8_count_283 : decode cX8_count 283 = .ok (.ireturn, 1) := by decide +kernel
theorem dX8_digest_0 : decode cX8_digest 0 = .ok (.ldc2_w 277, 3) := by decide +kernel
theorem dX8_digest_3 : decode cX8_digest 3 = .ok (.lstore_n 1, 1) := by decide +kernel
theorem dX8_digest_4 : decode cX8_digest 4 = .ok (.iconst 0, 1) := by decide +kernel
theorem dX8_digest_5 : decode cX8_digest 5 = .ok (.istore_n 3, 1) := by decide +kernel
theorem dX8_digest_6 : decode cX8_digest 6 = .ok (.iload_n 3, 1) := by decide +kernel
theorem dX8_digest_7 : decode cX8_digest 7 = .ok (.bipush 17, 2) := by decide +kernel
theorem dX8_digest_9 : decode cX8_digest 9 = .ok (.if_icmp .gt 22, 3) := by decide +kernel
theorem dX8_digest_12 : decode cX8_digest 12 = .ok (.ldc2_w 279, 3) := by decide +kernel
theorem dX8_digest_15 : decode cX8_digest 15 = .ok (.lload_n 1, 1) := by decide +kernel
theorem dX8_digest_16 : decode cX8_digest 16 = .ok (.lmul, 1) := by decide +kernel
theorem dX8_digest_17 : decode cX8_digest 17 = .ok (.aload_n 0, 1) := by decide +kernel
theorem dX8_digest_18 : decode cX8_digest 18 = .ok (.iload_n 3, 1) := by decide +kernel
theorem dX8_digest_19 : decode cX8_digest 19 = .ok (.invokevirtual 281, 3) := by decide +kernel
theorem dX8_digest_22 : decode cX8_digest 22 = .ok (.i2l, 1) := by decide +kernel
theorem dX8_digest_23 : decode cX8_digest 23 = .ok (.ladd, 1) := by decide +kernel
theorem dX8_digest_24 : decode cX8_digest 24 = .ok (.lstore_n 1, 1) := by decide +kernel
theorem dX8_digest_25 : decode cX8_digest 25 = .ok (.iinc 3 1, 3) := by decide +kernel
theorem dX8_digest_28 : decode cX8_digest 28 = .ok (.goto (-22), 3) := by decide +kernel
theorem dX8_digest_31 : decode cX8_digest 31 = .ok (.aload_n 0, 1) := by decide +kernel
theorem dX8_digest_32 : decode cX8_digest 32 = .ok (.lload_n 1, 1) := by decide +kernel
theorem dX8_digest_33 : decode cX8_digest 33 = .ok (.invokevirtual 284, 3) := by decide +kernel
theorem dX8_digest_36 : decode cX8_digest 36 = .ok (.lstore_n 1, 1) := by decide +kernel
theorem dX8_digest_37 : decode cX8_digest 37 = .ok (.aload_n 0, 1) := by decide +kernel
theorem dX8_digest_38 : decode cX8_digest 38 = .ok (.lload_n 1, 1) := by decide +kernel
theorem dX8_digest_39 : decode cX8_digest 39 = .ok (.invokevirtual 288, 3) := by decide +kernel
theorem dX8_digest_42 : decode cX8_digest 42 = .ok (.lstore_n 1, 1) := by decide +kernel
theorem dX8_digest_43 : decode cX8_digest 43 = .ok (.aload_n 0, 1) := by decide +kernel
theorem dX8_digest_44 : decode cX8_digest 44 = .ok (.lload_n 1, 1) := by decide +kernel
theorem dX8_digest_45 : decode cX8_digest 45 = .ok (.invokevirtual 291, 3) := by decide +kernel
theorem dX8_digest_48 : decode cX8_digest 48 = .ok (.lreturn, 1) := by decide +kernel
theorem dX8_digestOfPictures_0 : decode cX8_digestOfPictures 0 = .ok (.lload_n 1, 1) := by decide +kernel
theorem dX8_digestOfPictures_1 : decode cX8_digestOfPictures 1 = .ok (.lstore_n 3, 1) := by decide +kernel
theorem dX8_digestOfPictures_2 : decode cX8_digestOfPictures 2 = .ok (.iconst 0, 1) := by decide +kernel
theorem dX8_digestOfPictures_3 : decode cX8_digestOfPictures 3 = .ok (.istore 5, 2) := by decide +kernel
theorem dX8_digestOfPictures_5 : decode cX8_digestOfPictures 5 = .ok (.iload 5, 2) := by decide +kernel
theorem dX8_digestOfPictures_7 : decode cX8_digestOfPictures 7 = .ok (.aload_n 0, 1) := by decide +kernel
theorem dX8_digestOfPictures_8 : decode cX8_digestOfPictures 8 = .ok (.getfield 10, 3) := by decide +kernel
theorem dX8_digestOfPictures_11 : decode cX8_digestOfPictures 11 = .ok (.getfield 67, 3) := by decide +kernel
theorem dX8_digestOfPictures_14 : decode cX8_digestOfPictures 14 = .ok (.getfield 74, 3) := by decide +kernel
theorem dX8_digestOfPictures_17 : decode cX8_digestOfPictures 17 = .ok (.if_icmp .ge 41, 3) := by decide +kernel
theorem dX8_digestOfPictures_20 : decode cX8_digestOfPictures 20 = .ok (.ldc2_w 279, 3) := by decide +kernel
theorem dX8_digestOfPictures_23 : decode cX8_digestOfPictures 23 = .ok (.lload_n 3, 1) := by decide +kernel
theorem dX8_digestOfPictures_24 : decode cX8_digestOfPictures 24 = .ok (.lmul, 1) := by decide +kernel
theorem dX8_digestOfPictures_25 : decode cX8_digestOfPictures 25 = .ok (.aload_n 0, 1) := by decide +kernel
theorem dX8_digestOfPictures_26 : decode cX8_digestOfPictures 26 = .ok (.iconst 0, 1) := by decide +kernel
theorem dX8_digestOfPictures_27 : decode cX8_digestOfPictures 27 = .ok (.iload 5, 2) := by decide +kernel
theorem dX8_digestOfPictures_29 : decode cX8_digestOfPictures 29 = .ok (.invokevirtual 294, 3) := by decide +kernel
theorem dX8_digestOfPictures_32 : decode cX8_digestOfPictures 32 = .ok (.i2l, 1) := by decide +kernel
theorem dX8_digestOfPictures_33 : decode cX8_digestOfPictures 33 = .ok (.ladd, 1) := by decide +kernel
theorem dX8_digestOfPictures_34 : decode cX8_digestOfPictures 34 = .ok (.lstore_n 3, 1) := by decide +kernel
theorem dX8_digestOfPictures_35 : decode cX8_digestOfPictures 35 = .ok (.ldc2_w 279, 3) := by decide +kernel
theorem dX8_digestOfPictures_38 : decode cX8_digestOfPictures 38 = .ok (.lload_n 3, 1) := by decide +kernel
theorem dX8_digestOfPictures_39 : decode cX8_digestOfPictures 39 = .ok (.lmul, 1) := by decide +kernel
theorem dX8_digestOfPictures_40 : decode cX8_digestOfPictures 40 = .ok (.aload_n 0, 1) := by decide +kernel
theorem dX8_digestOfPictures_41 : decode cX8_digestOfPictures 41 = .ok (.sipush 1000, 3) := by decide +kernel
theorem dX8_digestOfPictures_44 : decode cX8_digestOfPictures 44 = .ok (.iload 5, 2) := by decide +kernel
theorem dX8_digestOfPictures_46 : decode cX8_digestOfPictures 46 = .ok (.invokevirtual 294, 3) := by decide +kernel
theorem dX8_digestOfPictures_49 : decode cX8_digestOfPictures 49 = .ok (.i2l, 1) := by decide +kernel
theorem dX8_digestOfPictures_50 : decode cX8_digestOfPictures 50 = .ok (.ladd, 1) := by decide +kernel
theorem dX8_digestOfPictures_51 : decode cX8_digestOfPictures 51 = .ok (.lstore_n 3, 1) := by decide +kernel
theorem dX8_digestOfPictures_52 : decode cX8_digestOfPictures 52 = .ok (.iinc 5 1, 3) := by decide +kernel
theorem dX8_digestOfPictures_55 : decode cX8_digestOfPictures 55 = .ok (.goto (-50), 3) := by decide +kernel
theorem dX8_digestOfPictures_58 : decode cX8_digestOfPictures 58 = .ok (.iconst 0, 1) := by decide +kernel
theorem dX8_digestOfPictures_59 : decode cX8_digestOfPictures 59 = .ok (.istore 5, 2) := by decide +kernel
theorem dX8_digestOfPictures_61 : decode cX8_digestOfPictures 61 = .ok (.iload 5, 2) := by decide +kernel
theorem dX8_digestOfPictures_63 : decode cX8_digestOfPictures 63 = .ok (.bipush 20, 2) := by decide +kernel
theorem dX8_digestOfPictures_65 : decode cX8_digestOfPictures 65 = .ok (.if_icmp .ge 49, 3) := by decide +kernel
theorem dX8_digestOfPictures_68 : decode cX8_digestOfPictures 68 = .ok (.aload_n 0, 1) := by decide +kernel
theorem dX8_digestOfPictures_69 : decode cX8_digestOfPictures 69 = .ok (.iload 5, 2) := by decide +kernel
theorem dX8_digestOfPictures_71 : decode cX8_digestOfPictures 71 = .ok (.invokevirtual 141, 3) := by decide +kernel
theorem dX8_digestOfPictures_74 : decode cX8_digestOfPictures 74 = .ok (.ifCond .eq 40, 3) := by decide +kernel
theorem dX8_digestOfPictures_77 : decode cX8_digestOfPictures 77 = .ok (.iconst 0, 1) := by decide +kernel
theorem dX8_digestOfPictures_78 : decode cX8_digestOfPictures 78 = .ok (.istore 6, 2) := by decide +kernel
theorem dX8_digestOfPictures_80 : decode cX8_digestOfPictures 80 = .ok (.iload 6, 2) := by decide +kernel
theorem dX8_digestOfPictures_82 : decode cX8_digestOfPictures 82 = .ok (.iconst 3, 1) := by decide +kernel
theorem dX8_digestOfPictures_83 : decode cX8_digestOfPictures 83 = .ok (.if_icmp .gt 25, 3) := by decide +kernel
theorem dX8_digestOfPictures_86 : decode cX8_digestOfPictures 86 = .ok (.ldc2_w 279, 3) := by decide +kernel
theorem dX8_digestOfPictures_89 : decode cX8_digestOfPictures 89 = .ok (.lload_n 3, 1) := by decide +kernel
theorem dX8_digestOfPictures_90 : decode cX8_digestOfPictures 90 = .ok (.lmul, 1) := by decide +kernel
theorem dX8_digestOfPictures_91 : decode cX8_digestOfPictures 91 = .ok (.aload_n 0, 1) := by decide +kernel
theorem dX8_digestOfPictures_92 : decode cX8_digestOfPictures 92 = .ok (.iload 5, 2) := by decide +kernel
theorem dX8_digestOfPictures_94 : decode cX8_digestOfPictures 94 = .ok (.iload 6, 2) := by decide +kernel
theorem dX8_digestOfPictures_96 : decode cX8_digestOfPictures 96 = .ok (.invokevirtual 175, 3) := by decide +kernel
theorem dX8_digestOfPictures_99 : decode cX8_digestOfPictures 99 = .ok (.i2l, 1) := by decide +kernel
theorem dX8_digestOfPictures_100 : decode cX8_digestOfPictures 100 = .ok (.ladd, 1) := by decide +kernel
theorem dX8_digestOfPictures_101 : decode cX8_digestOfPictures 101 = .ok (.lstore_n 3, 1) := by decide +kernel
theorem dX8_digestOfPictures_102 : decode cX8_digestOfPictures 102 = .ok (.iinc 6 1, 3) := by decide +kernel
theorem dX8_digestOfPictures_105 : decode cX8_digestOfPictures 105 = .ok (.goto (-25), 3) := by decide +kernel
theorem dX8_digestOfPictures_108 : decode cX8_digestOfPictures 108 = .ok (.iinc 5 1, 3) := by decide +kernel
theorem dX8_digestOfPictures_111 : decode cX8_digestOfPictures 111 = .ok (.goto (-50), 3) := by decide +kernel
theorem dX8_digestOfPictures_114 : decode cX8_digestOfPictures 114 = .ok (.iconst 0, 1) := by decide +kernel
theorem dX8_digestOfPictures_115 : decode cX8_digestOfPictures 115 = .ok (.istore 5, 2) := by decide +kernel
theorem dX8_digestOfPictures_117 : decode cX8_digestOfPictures 117 = .ok (.iload 5, 2) := by decide +kernel
theorem dX8_digestOfPictures_119 : decode cX8_digestOfPictures 119 = .ok (.iconst 3, 1) := by decide +kernel
theorem dX8_digestOfPictures_120 : decode cX8_digestOfPictures 120 = .ok (.if_icmp .gt 23, 3) := by decide +kernel
theorem dX8_digestOfPictures_123 : decode cX8_digestOfPictures 123 = .ok (.ldc2_w 279, 3) := by decide +kernel
theorem dX8_digestOfPictures_126 : decode cX8_digestOfPictures 126 = .ok (.lload_n 3, 1) := by decide +kernel
theorem dX8_digestOfPictures_127 : decode cX8_digestOfPictures 127 = .ok (.lmul, 1) := by decide +kernel
theorem dX8_digestOfPictures_128 : decode cX8_digestOfPictures 128 = .ok (.aload_n 0, 1) := by decide +kernel
theorem dX8_digestOfPictures_129 : decode cX8_digestOfPictures 129 = .ok (.iload 5, 2) := by decide +kernel
theorem dX8_digestOfPictures_131 : decode cX8_digestOfPictures 131 = .ok (.invokevirtual 297, 3) := by decide +kernel
theorem dX8_digestOfPictures_134 : decode cX8_digestOfPictures 134 = .ok (.i2l, 1) := by decide +kernel
theorem dX8_digestOfPictures_135 : decode cX8_digestOfPictures 135 = .ok (.ladd, 1) := by decide +kernel
theorem dX8_digestOfPictures_136 : decode cX8_digestOfPictures 136 = .ok (.lstore_n 3, 1) := by decide +kernel
theorem dX8_digestOfPictures_137 : decode cX8_digestOfPictures 137 = .ok (.iinc 5 1, 3) := by decide +kernel
theorem dX8_digestOfPictures_140 : decode cX8_digestOfPictures 140 = .ok (.goto (-23), 3) := by decide +kernel
theorem dX8_digestOfPictures_143 : decode cX8_digestOfPictures 143 = .ok (.lload_n 3, 1) := by decide +kernel
theorem dX8_digestOfPictures_144 : decode cX8_digestOfPictures 144 = .ok (.lreturn, 1) := by decide +kernel
theorem dX8_digestOfReadings_0 : decode cX8_digestOfReadings 0 = .ok (.lload_n 1, 1) := by decide +kernel
theorem dX8_digestOfReadings_1 : decode cX8_digestOfReadings 1 = .ok (.lstore_n 3, 1) := by decide +kernel
theorem dX8_digestOfReadings_2 : decode cX8_digestOfReadings 2 = .ok (.iconst 0, 1) := by decide +kernel
theorem dX8_digestOfReadings_3 : decode cX8_digestOfReadings 3 = .ok (.istore 5, 2) := by decide +kernel
theorem dX8_digestOfReadings_5 : decode cX8_digestOfReadings 5 = .ok (.iload 5, 2) := by decide +kernel
theorem dX8_digestOfReadings_7 : decode cX8_digestOfReadings 7 = .ok (.aload_n 0, 1) := by decide +kernel
theorem dX8_digestOfReadings_8 : decode cX8_digestOfReadings 8 = .ok (.getfield 10, 3) := by decide +kernel
theorem dX8_digestOfReadings_11 : decode cX8_digestOfReadings 11 = .ok (.getfield 181, 3) := by decide +kernel
theorem dX8_digestOfReadings_14 : decode cX8_digestOfReadings 14 = .ok (.getfield 190, 3) := by decide +kernel
theorem dX8_digestOfReadings_17 : decode cX8_digestOfReadings 17 = .ok (.if_icmp .ge 40, 3) := by decide +kernel
theorem dX8_digestOfReadings_20 : decode cX8_digestOfReadings 20 = .ok (.iconst 0, 1) := by decide +kernel
theorem dX8_digestOfReadings_21 : decode cX8_digestOfReadings 21 = .ok (.istore 6, 2) := by decide +kernel
theorem dX8_digestOfReadings_23 : decode cX8_digestOfReadings 23 = .ok (.iload 6, 2) := by decide +kernel
theorem dX8_digestOfReadings_25 : decode cX8_digestOfReadings 25 = .ok (.iconst 2, 1) := by decide +kernel
theorem dX8_digestOfReadings_26 : decode cX8_digestOfReadings 26 = .ok (.if_icmp .gt 25, 3) := by decide +kernel
theorem dX8_digestOfReadings_29 : decode cX8_digestOfReadings 29 = .ok (.ldc2_w 279, 3) := by decide +kernel
theorem dX8_digestOfReadings_32 : decode cX8_digestOfReadings 32 = .ok (.lload_n 3, 1) := by decide +kernel
theorem dX8_digestOfReadings_33 : decode cX8_digestOfReadings 33 = .ok (.lmul, 1) := by decide +kernel
theorem dX8_digestOfReadings_34 : decode cX8_digestOfReadings 34 = .ok (.aload_n 0, 1) := by decide +kernel
theorem dX8_digestOfReadings_35 : decode cX8_digestOfReadings 35 = .ok (.iload 5, 2) := by decide +kernel
theorem dX8_digestOfReadings_37 : decode cX8_digestOfReadings 37 = .ok (.iload 6, 2) := by decide +kernel
theorem dX8_digestOfReadings_39 : decode cX8_digestOfReadings 39 = .ok (.invokevirtual 300, 3) := by decide +kernel
theorem dX8_digestOfReadings_42 : decode cX8_digestOfReadings 42 = .ok (.i2l, 1) := by decide +kernel
theorem dX8_digestOfReadings_43 : decode cX8_digestOfReadings 43 = .ok (.ladd, 1) := by decide +kernel
theorem dX8_digestOfReadings_44 : decode cX8_digestOfReadings 44 = .ok (.lstore_n 3, 1) := by decide +kernel
theorem dX8_digestOfReadings_45 : decode cX8_digestOfReadings 45 = .ok (.iinc 6 1, 3) := by decide +kernel
theorem dX8_digestOfReadings_48 : decode cX8_digestOfReadings 48 = .ok (.goto (-25), 3) := by decide +kernel
theorem dX8_digestOfReadings_51 : decode cX8_digestOfReadings 51 = .ok (.iinc 5 1, 3) := by decide +kernel
theorem dX8_digestOfReadings_54 : decode cX8_digestOfReadings 54 = .ok (.goto (-49), 3) := by decide +kernel
theorem dX8_digestOfReadings_57 : decode cX8_digestOfReadings 57 = .ok (.ldc2_w 279, 3) := by decide +kernel
theorem dX8_digestOfReadings_60 : decode cX8_digestOfReadings 60 = .ok (.lload_n 3, 1) := by decide +kernel
theorem dX8_digestOfReadings_61 : decode cX8_digestOfReadings 61 = .ok (.lmul, 1) := by decide +kernel
theorem dX8_digestOfReadings_62 : decode cX8_digestOfReadings 62 = .ok (.aload_n 0, 1) := by decide +kernel
theorem dX8_digestOfReadings_63 : decode cX8_digestOfReadings 63 = .ok (.invokevirtual 217, 3) := by decide +kernel
theorem dX8_digestOfReadings_66 : decode cX8_digestOfReadings 66 = .ok (.i2l, 1) := by decide +kernel
theorem dX8_digestOfReadings_67 : decode cX8_digestOfReadings 67 = .ok (.ladd, 1) := by decide +kernel
theorem dX8_digestOfReadings_68 : decode cX8_digestOfReadings 68 = .ok (.lstore_n 3, 1) := by decide +kernel
theorem dX8_digestOfReadings_69 : decode cX8_digestOfReadings 69 = .ok (.iconst 0, 1) := by decide +kernel
theorem dX8_digestOfReadings_70 : decode cX8_digestOfReadings 70 = .ok (.istore 5, 2) := by decide +kernel
theorem dX8_digestOfReadings_72 : decode cX8_digestOfReadings 72 = .ok (.iload 5, 2) := by decide +kernel
theorem dX8_digestOfReadings_74 : decode cX8_digestOfReadings 74 = .ok (.iconst 4, 1) := by decide +kernel
theorem dX8_digestOfReadings_75 : decode cX8_digestOfReadings 75 = .ok (.if_icmp .gt 23, 3) := by decide +kernel
theorem dX8_digestOfReadings_78 : decode cX8_digestOfReadings 78 = .ok (.ldc2_w 279, 3) := by decide +kernel
theorem dX8_digestOfReadings_81 : decode cX8_digestOfReadings 81 = .ok (.lload_n 3, 1) := by decide +kernel
theorem dX8_digestOfReadings_82 : decode cX8_digestOfReadings 82 = .ok (.lmul, 1) := by decide +kernel
theorem dX8_digestOfReadings_83 : decode cX8_digestOfReadings 83 = .ok (.aload_n 0, 1) := by decide +kernel
theorem dX8_digestOfReadings_84 : decode cX8_digestOfReadings 84 = .ok (.iload 5, 2) := by decide +kernel
theorem dX8_digestOfReadings_86 : decode cX8_digestOfReadings 86 = .ok (.invokevirtual 303, 3) := by decide +kernel
theorem dX8_digestOfReadings_89 : decode cX8_digestOfReadings 89 = .ok (.i2l, 1) := by decide +kernel
theorem dX8_digestOfReadings_90 : decode cX8_digestOfReadings 90 = .ok (.ladd, 1) := by decide +kernel
theorem dX8_digestOfReadings_91 : decode cX8_digestOfReadings 91 = .ok (.lstore_n 3, 1) := by decide +kernel
theorem dX8_digestOfReadings_92 : decode cX8_digestOfReadings 92 = .ok (.iinc 5 1, 3) := by decide +kernel
theorem dX8_digestOfReadings_95 : decode cX8_digestOfReadings 95 = .ok (.goto (-23), 3) := by decide +kernel
theorem dX8_digestOfReadings_98 : decode cX8_digestOfReadings 98 = .ok (.ldc2_w 279, 3) := by decide +kernel
theorem dX8_digestOfReadings_101 : decode cX8_digestOfReadings 101 = .ok (.lload_n 3, 1) := by decide +kernel
theorem dX8_digestOfReadings_102 : decode cX8_digestOfReadings 102 = .ok (.lmul, 1) := by decide +kernel
theorem dX8_digestOfReadings_103 : decode cX8_digestOfReadings 103 = .ok (.aload_n 0, 1) := by decide +kernel
theorem dX8_digestOfReadings_104 : decode cX8_digestOfReadings 104 = .ok (.iconst 0, 1) := by decide +kernel
theorem dX8_digestOfReadings_105 : decode cX8_digestOfReadings 105 = .ok (.invokevirtual 306, 3) := by decide +kernel
theorem dX8_digestOfReadings_108 : decode cX8_digestOfReadings 108 = .ok (.i2l, 1) := by decide +kernel
theorem dX8_digestOfReadings_109 : decode cX8_digestOfReadings 109 = .ok (.ladd, 1) := by decide +kernel
theorem dX8_digestOfReadings_110 : decode cX8_digestOfReadings 110 = .ok (.lstore_n 3, 1) := by decide +kernel
theorem dX8_digestOfReadings_111 : decode cX8_digestOfReadings 111 = .ok (.ldc2_w 279, 3) := by decide +kernel
theorem dX8_digestOfReadings_114 : decode cX8_digestOfReadings 114 = .ok (.lload_n 3, 1) := by decide +kernel
theorem dX8_digestOfReadings_115 : decode cX8_digestOfReadings 115 = .ok (.lmul, 1) := by decide +kernel
theorem dX8_digestOfReadings_116 : decode cX8_digestOfReadings 116 = .ok (.aload_n 0, 1) := by decide +kernel
theorem dX8_digestOfReadings_117 : decode cX8_digestOfReadings 117 = .ok (.bipush 20, 2) := by decide +kernel
theorem dX8_digestOfReadings_119 : decode cX8_digestOfReadings 119 = .ok (.iconst 0, 1) := by decide +kernel
theorem dX8_digestOfReadings_120 : decode cX8_digestOfReadings 120 = .ok (.invokevirtual 309, 3) := by decide +kernel
theorem dX8_digestOfReadings_123 : decode cX8_digestOfReadings 123 = .ok (.i2l, 1) := by decide +kernel
theorem dX8_digestOfReadings_124 : decode cX8_digestOfReadings 124 = .ok (.ladd, 1) := by decide +kernel
theorem dX8_digestOfReadings_125 : decode cX8_digestOfReadings 125 = .ok (.lstore_n 3, 1) := by decide +kernel
theorem dX8_digestOfReadings_126 : decode cX8_digestOfReadings 126 = .ok (.ldc2_w 279, 3) := by decide +kernel
theorem dX8_digestOfReadings_129 : decode cX8_digestOfReadings 129 = .ok (.lload_n 3, 1) := by decide +kernel
theorem dX8_digestOfReadings_130 : decode cX8_digestOfReadings 130 = .ok (.lmul, 1) := by decide +kernel
theorem dX8_digestOfReadings_131 : decode cX8_digestOfReadings 131 = .ok (.aload_n 0, 1) := by decide +kernel
theorem dX8_digestOfReadings_132 : decode cX8_digestOfReadings 132 = .ok (.bipush 20, 2) := by decide +kernel
theorem dX8_digestOfReadings_134 : decode cX8_digestOfReadings 134 = .ok (.iconst 1, 1) := by decide +kernel
theorem dX8_digestOfReadings_135 : decode cX8_digestOfReadings 135 = .ok (.invokevirtual 309, 3) := by decide +kernel
theorem dX8_digestOfReadings_138 : decode cX8_digestOfReadings 138 = .ok (.i2l, 1) := by decide +kernel
theorem dX8_digestOfReadings_139 : decode cX8_digestOfReadings 139 = .ok (.ladd, 1) := by decide +kernel
theorem dX8_digestOfReadings_140 : decode cX8_digestOfReadings 140 = .ok (.lreturn, 1) := by decide +kernel
theorem dX8_digestOfOpenings_0 : decode cX8_digestOfOpenings 0 = .ok (.lload_n 1, 1) := by decide +kernel
theorem dX8_digestOfOpenings_1 : decode cX8_digestOfOpenings 1 = .ok (.lstore_n 3, 1) := by decide +kernel
theorem dX8_digestOfOpenings_2 : decode cX8_digestOfOpenings 2 = .ok (.iconst 0, 1) := by decide +kernel
theorem dX8_digestOfOpenings_3 : decode cX8_digestOfOpenings 3 = .ok (.istore 5, 2) := by decide +kernel
theorem dX8_digestOfOpenings_5 : decode cX8_digestOfOpenings 5 = .ok (.iload 5, 2) := by decide +kernel
theorem dX8_digestOfOpenings_7 : decode cX8_digestOfOpenings 7 = .ok (.iconst 4, 1) := by decide +kernel
theorem dX8_digestOfOpenings_8 : decode cX8_digestOfOpenings 8 = .ok (.if_icmp .gt 55, 3) := by decide +kernel
theorem dX8_digestOfOpenings_11 : decode cX8_digestOfOpenings 11 = .ok (.iconst 0, 1) := by decide +kernel
theorem dX8_digestOfOpenings_12 : decode cX8_digestOfOpenings 12 = .ok (.istore 6, 2) := by decide +kernel
theorem dX8_digestOfOpenings_14 : decode cX8_digestOfOpenings 14 = .ok (.iload 6, 2) := by decide +kernel
theorem dX8_digestOfOpenings_16 : decode cX8_digestOfOpenings 16 = .ok (.iconst 3, 1) := by decide +kernel
theorem dX8_digestOfOpenings_17 : decode cX8_digestOfOpenings 17 = .ok (.if_icmp .gt 25, 3) := by decide +kernel
theorem dX8_digestOfOpenings_20 : decode cX8_digestOfOpenings 20 = .ok (.ldc2_w 279, 3) := by decide +kernel
theorem dX8_digestOfOpenings_23 : decode cX8_digestOfOpenings 23 = .ok (.lload_n 3, 1) := by decide +kernel
theorem dX8_digestOfOpenings_24 : decode cX8_digestOfOpenings 24 = .ok (.lmul, 1) := by decide +kernel
theorem dX8_digestOfOpenings_25 : decode cX8_digestOfOpenings 25 = .ok (.aload_n 0, 1) := by decide +kernel
theorem dX8_digestOfOpenings_26 : decode cX8_digestOfOpenings 26 = .ok (.iload 5, 2) := by decide +kernel
theorem dX8_digestOfOpenings_28 : decode cX8_digestOfOpenings 28 = .ok (.iload 6, 2) := by decide +kernel
theorem dX8_digestOfOpenings_30 : decode cX8_digestOfOpenings 30 = .ok (.invokevirtual 313, 3) := by decide +kernel
theorem dX8_digestOfOpenings_33 : decode cX8_digestOfOpenings 33 = .ok (.i2l, 1) := by decide +kernel
theorem dX8_digestOfOpenings_34 : decode cX8_digestOfOpenings 34 = .ok (.ladd, 1) := by decide +kernel
theorem dX8_digestOfOpenings_35 : decode cX8_digestOfOpenings 35 = .ok (.lstore_n 3, 1) := by decide +kernel
theorem dX8_digestOfOpenings_36 : decode cX8_digestOfOpenings 36 = .ok (.iinc 6 1, 3) := by decide +kernel
theorem dX8_digestOfOpenings_39 : decode cX8_digestOfOpenings 39 = .ok (.goto (-25), 3) := by decide +kernel
theorem dX8_digestOfOpenings_42 : decode cX8_digestOfOpenings 42 = .ok (.ldc2_w 279, 3) := by decide +kernel
theorem dX8_digestOfOpenings_45 : decode cX8_digestOfOpenings 45 = .ok (.lload_n 3, 1) := by decide +kernel
theorem dX8_digestOfOpenings_46 : decode cX8_digestOfOpenings 46 = .ok (.lmul, 1) := by decide +kernel
theorem dX8_digestOfOpenings_47 : decode cX8_digestOfOpenings 47 = .ok (.aload_n 0, 1) := by decide +kernel
theorem dX8_digestOfOpenings_48 : decode cX8_digestOfOpenings 48 = .ok (.iload 5, 2) := by decide +kernel
theorem dX8_digestOfOpenings_50 : decode cX8_digestOfOpenings 50 = .ok (.iconst 0, 1) := by decide +kernel
theorem dX8_digestOfOpenings_51 : decode cX8_digestOfOpenings 51 = .ok (.invokevirtual 316, 3) := by decide +kernel
theorem dX8_digestOfOpenings_54 : decode cX8_digestOfOpenings 54 = .ok (.i2l, 1) := by decide +kernel
theorem dX8_digestOfOpenings_55 : decode cX8_digestOfOpenings 55 = .ok (.ladd, 1) := by decide +kernel
theorem dX8_digestOfOpenings_56 : decode cX8_digestOfOpenings 56 = .ok (.lstore_n 3, 1) := by decide +kernel
theorem dX8_digestOfOpenings_57 : decode cX8_digestOfOpenings 57 = .ok (.iinc 5 1, 3) := by decide +kernel
theorem dX8_digestOfOpenings_60 : decode cX8_digestOfOpenings 60 = .ok (.goto (-55), 3) := by decide +kernel
theorem dX8_digestOfOpenings_63 : decode cX8_digestOfOpenings 63 = .ok (.lload_n 3, 1) := by decide +kernel
theorem dX8_digestOfOpenings_64 : decode cX8_digestOfOpenings 64 = .ok (.lreturn, 1) := by decide +kernel
theorem dX8_addReading_0 : decode cX8_addReading 0 = .ok (.aload_n 0, 1) := by decide +kernel
theorem dX8_addReading_1 : decode cX8_addReading 1 = .ok (.getfield 10, 3) := by decide +kernel
theorem dX8_addReading_4 : decode cX8_addReading 4 = .ok (.getfield 181, 3) := by decide +kernel
theorem dX8_addReading_7 : decode cX8_addReading 7 = .ok (.getfield 190, 3) := by decide +kernel
theorem dX8_addReading_10 : decode cX8_addReading 10 = .ok (.bipush 8, 2) := by decide +kernel
theorem dX8_addReading_12 : decode cX8_addReading 12 = .ok (.if_icmp .lt 7, 3) := by decide +kernel
theorem dX8_addReading_15 : decode cX8_addReading 15 = .ok (.sipush (-1003), 3) := by decide +kernel
theorem dX8_addReading_18 : decode cX8_addReading 18 = .ok (.ireturn, 1) := by decide +kernel
theorem dX8_addReading_19 : decode cX8_addReading 19 = .ok (.aload_n 0, 1) := by decide +kernel
theorem dX8_addReading_20 : decode cX8_addReading 20 = .ok (.getfield 19, 3) := by decide +kernel
theorem dX8_addReading_23 : decode cX8_addReading 23 = .ok (.aload_n 0, 1) := by decide +kernel
theorem dX8_addReading_24 : decode cX8_addReading 24 = .ok (.getfield 10, 3) := by decide +kernel
theorem dX8_addReading_27 : decode cX8_addReading 27 = .ok (.invokevirtual 63, 3) := by decide +kernel
theorem dX8_addReading_30 : decode cX8_addReading 30 = .ok (.aload_n 0, 1) := by decide +kernel
theorem dX8_addReading_31 : decode cX8_addReading 31 = .ok (.getfield 10, 3) := by decide +kernel
theorem dX8_addReading_34 : decode cX8_addReading 34 = .ok (.getfield 181, 3) := by decide +kernel
theorem dX8_addReading_37 : decode cX8_addReading 37 = .ok (.iload_n 1, 1) := by decide +kernel
theorem dX8_addReading_38 : decode cX8_addReading 38 = .ok (.iload_n 2, 1) := by decide +kernel
theorem dX8_addReading_39 : decode cX8_addReading 39 = .ok (.invokevirtual 319, 3) := by decide +kernel
theorem dX8_addReading_42 : decode cX8_addReading 42 = .ok (.aload_n 0, 1) := by decide +kernel
theorem dX8_addReading_43 : decode cX8_addReading 43 = .ok (.getfield 10, 3) := by decide +kernel
theorem dX8_addReading_46 : decode cX8_addReading 46 = .ok (.getfield 181, 3) := by decide +kernel
theorem dX8_addReading_49 : decode cX8_addReading 49 = .ok (.getfield 190, 3) := by decide +kernel
theorem dX8_addReading_52 : decode cX8_addReading 52 = .ok (.iconst 1, 1) := by decide +kernel
theorem dX8_addReading_53 : decode cX8_addReading 53 = .ok (.isub, 1) := by decide +kernel
theorem dX8_addReading_54 : decode cX8_addReading 54 = .ok (.ireturn, 1) := by decide +kernel
theorem dX8_findWithout_0 : decode cX8_findWithout 0 = .ok (.aload_n 0, 1) := by decide +kernel
theorem dX8_findWithout_1 : decode cX8_findWithout 1 = .ok (.getfield 40, 3) := by decide +kernel
theorem dX8_findWithout_4 : decode cX8_findWithout 4 = .ok (.aload_n 0, 1) := by decide +kernel
theorem dX8_findWithout_5 : decode cX8_findWithout 5 = .ok (.getfield 10, 3) := by decide +kernel
theorem dX8_findWithout_8 : decode cX8_findWithout 8 = .ok (.getfield 67, 3) := by decide +kernel
theorem dX8_findWithout_11 : decode cX8_findWithout 11 = .ok (.invokevirtual 156, 3) := by decide +kernel
theorem dX8_findWithout_14 : decode cX8_findWithout 14 = .ok (.aload_n 0, 1) := by decide +kernel
theorem dX8_findWithout_15 : decode cX8_findWithout 15 = .ok (.getfield 10, 3) := by decide +kernel
theorem dX8_findWithout_18 : decode cX8_findWithout 18 = .ok (.getfield 181, 3) := by decide +kernel
theorem dX8_findWithout_21 : decode cX8_findWithout 21 = .ok (.iload_n 1, 1) := by decide +kernel
theorem dX8_findWithout_22 : decode cX8_findWithout 22 = .ok (.invokevirtual 322, 3) := by decide +kernel
theorem dX8_findWithout_25 : decode cX8_findWithout 25 = .ok (.aload_n 0, 1) := by decide +kernel
theorem dX8_findWithout_26 : decode cX8_findWithout 26 = .ok (.getfield 40, 3) := by decide +kernel
theorem dX8_findWithout_29 : decode cX8_findWithout 29 = .ok (.areturn, 1) := by decide +kernel
theorem dX8_isPlace_0 : decode cX8_isPlace 0 = .ok (.iload_n 1, 1) := by decide +kernel
theorem dX8_isPlace_1 : decode cX8_isPlace 1 = .ok (.iconst 0, 1) := by decide +kernel
theorem dX8_isPlace_2 : decode cX8_isPlace 2 = .ok (.aload_n 0, 1) := by decide +kernel
theorem dX8_isPlace_3 : decode cX8_isPlace 3 = .ok (.getfield 10, 3) := by decide +kernel
theorem dX8_isPlace_6 : decode cX8_isPlace 6 = .ok (.getfield 67, 3) := by decide +kernel
theorem dX8_isPlace_9 : decode cX8_isPlace 9 = .ok (.getfield 74, 3) := by decide +kernel
theorem dX8_isPlace_12 : decode cX8_isPlace 12 = .ok (.iconst 1, 1) := by decide +kernel
theorem dX8_isPlace_13 : decode cX8_isPlace 13 = .ok (.isub, 1) := by decide +kernel
theorem dX8_isPlace_14 : decode cX8_isPlace 14 = .ok (.invokestatic 44, 3) := by decide +kernel
theorem dX8_isPlace_17 : decode cX8_isPlace 17 = .ok (.ireturn, 1) := by decide +kernel
theorem dX8_isFlash_0 : decode cX8_isFlash 0 = .ok (.iload_n 1, 1) := by decide +kernel
theorem dX8_isFlash_1 : decode cX8_isFlash 1 = .ok (.iconst 0, 1) := by decide +kernel
theorem dX8_isFlash_2 : decode cX8_isFlash 2 = .ok (.aload_n 0, 1) := by decide +kernel
theorem dX8_isFlash_3 : decode cX8_isFlash 3 = .ok (.getfield 10, 3) := by decide +kernel
theorem dX8_isFlash_6 : decode cX8_isFlash 6 = .ok (.getfield 125, 3) := by decide +kernel
theorem dX8_isFlash_9 : decode cX8_isFlash 9 = .ok (.invokevirtual 137, 3) := by decide +kernel
theorem dX8_isFlash_12 : decode cX8_isFlash 12 = .ok (.iconst 1, 1) := by decide +kernel
theorem dX8_isFlash_13 : decode cX8_isFlash 13 = .ok (.isub, 1) := by decide +kernel
theorem dX8_isFlash_14 : decode cX8_isFlash 14 = .ok (.invokestatic 44, 3) := by decide +kernel
theorem dX8_isFlash_17 : decode cX8_isFlash 17 = .ok (.ireturn, 1) := by decide +kernel
theorem dX8_isReading_0 : decode cX8_isReading 0 = .ok (.iload_n 1, 1) := by decide +kernel
theorem dX8_isReading_1 : decode cX8_isReading 1 = .ok (.iconst 0, 1) := by decide +kernel
theorem dX8_isReading_2 : decode cX8_isReading 2 = .ok (.aload_n 0, 1) := by decide +kernel
theorem dX8_isReading_3 : decode cX8_isReading 3 = .ok (.getfield 10, 3) := by decide +kernel
theorem dX8_isReading_6 : decode cX8_isReading 6 = .ok (.getfield 181, 3) := by decide +kernel
theorem dX8_isReading_9 : decode cX8_isReading 9 = .ok (.getfield 190, 3) := by decide +kernel
theorem dX8_isReading_12 : decode cX8_isReading 12 = .ok (.iconst 1, 1) := by decide +kernel
theorem dX8_isReading_13 : decode cX8_isReading 13 = .ok (.isub, 1) := by decide +kernel
theorem dX8_isReading_14 : decode cX8_isReading 14 = .ok (.invokestatic 44, 3) := by decide +kernel
theorem dX8_isReading_17 : decode cX8_isReading 17 = .ok (.ireturn, 1) := by decide +kernel
theorem dX8_isTick_0 : decode cX8_isTick 0 = .ok (.iload_n 0, 1) := by decide +kernel
theorem dX8_isTick_1 : decode cX8_isTick 1 = .ok (.iconst 0, 1) := by decide +kernel
theorem dX8_isTick_2 : decode cX8_isTick 2 = .ok (.sipush 1000, 3) := by decide +kernel
theorem dX8_isTick_5 : decode cX8_isTick 5 = .ok (.invokestatic 44, 3) := by decide +kernel
theorem dX8_isTick_8 : decode cX8_isTick 8 = .ok (.ireturn, 1) := by decide +kernel
theorem dX8_within_0 : decode cX8_within 0 = .ok (.iload_n 0, 1) := by decide +kernel
theorem dX8_within_1 : decode cX8_within 1 = .ok (.iload_n 1, 1) := by decide +kernel
theorem dX8_within_2 : decode cX8_within 2 = .ok (.if_icmp .lt 12, 3) := by decide +kernel
theorem dX8_within_5 : decode cX8_within 5 = .ok (.iload_n 0, 1) := by decide +kernel
theorem dX8_within_6 : decode cX8_within 6 = .ok (.iload_n 2, 1) := by decide +kernel
theorem dX8_within_7 : decode cX8_within 7 = .ok (.if_icmp .gt 7, 3) := by decide +kernel
theorem dX8_within_10 : decode cX8_within 10 = .ok (.iconst 1, 1) := by decide +kernel
theorem dX8_within_11 : decode cX8_within 11 = .ok (.goto 4, 3) := by decide +kernel
theorem dX8_within_14 : decode cX8_within 14 = .ok (.iconst 0, 1) := by decide +kernel
theorem dX8_within_15 : decode cX8_within 15 = .ok (.ireturn, 1) := by decide +kernel
theorem dX8_mod_0 : decode cX8_mod 0 = .ok (.iload_n 1, 1) := by decide +kernel
theorem dX8_mod_1 : decode cX8_mod 1 = .ok (.ifCond .gt 5, 3) := by decide +kernel
theorem dX8_mod_4 : decode cX8_mod 4 = .ok (.iconst 0, 1) := by decide +kernel
theorem dX8_mod_5 : decode cX8_mod 5 = .ok (.ireturn, 1) := by decide +kernel
theorem dX8_mod_6 : decode cX8_mod 6 = .ok (.iload_n 0, 1) := by decide +kernel
theorem dX8_mod_7 : decode cX8_mod 7 = .ok (.iload_n 1, 1) := by decide +kernel
theorem dX8_mod_8 : decode cX8_mod 8 = .ok (.irem, 1) := by decide +kernel
theorem dX8_mod_9 : decode cX8_mod 9 = .ok (.istore_n 2, 1) := by decide +kernel
theorem dX8_mod_10 : decode cX8_mod 10 = .ok (.iload_n 2, 1) := by decide +kernel
theorem dX8_mod_11 : decode cX8_mod 11 = .ok (.ifCond .ge 9, 3) := by decide +kernel
theorem dX8_mod_14 : decode cX8_mod 14 = .ok (.iload_n 2, 1) := by decide +kernel
theorem dX8_mod_15 : decode cX8_mod 15 = .ok (.iload_n 1, 1) := by decide +kernel
theorem dX8_mod_16 : decode cX8_mod 16 = .ok (.iadd, 1) := by decide +kernel
theorem dX8_mod_17 : decode cX8_mod 17 = .ok (.goto 4, 3) := by decide +kernel
theorem dX8_mod_20 : decode cX8_mod 20 = .ok (.iload_n 2, 1) := by decide +kernel
theorem dX8_mod_21 : decode cX8_mod 21 = .ok (.ireturn, 1) := by decide +kernel
theorem dX8_hasBit_0 : decode cX8_hasBit 0 = .ok (.lload_n 0, 1) := by decide +kernel
theorem dX8_hasBit_1 : decode cX8_hasBit 1 = .ok (.iload_n 2, 1) := by decide +kernel
theorem dX8_hasBit_2 : decode cX8_hasBit 2 = .ok (.lushr, 1) := by decide +kernel
theorem dX8_hasBit_3 : decode cX8_hasBit 3 = .ok (.lconst 1, 1) := by decide +kernel
theorem dX8_hasBit_4 : decode cX8_hasBit 4 = .ok (.land, 1) := by decide +kernel
theorem dX8_hasBit_5 : decode cX8_hasBit 5 = .ok (.lconst 1, 1) := by decide +kernel
theorem dX8_hasBit_6 : decode cX8_hasBit 6 = .ok (.lcmp, 1) := by decide +kernel
theorem dX8_hasBit_7 : decode cX8_hasBit 7 = .ok (.ifCond .ne 7, 3) := by decide +kernel
theorem dX8_hasBit_10 : decode cX8_hasBit 10 = .ok (.iconst 1, 1) := by decide +kernel
theorem dX8_hasBit_11 : decode cX8_hasBit 11 = .ok (.goto 4, 3) := by decide +kernel
theorem dX8_hasBit_14 : decode cX8_hasBit 14 = .ok (.iconst 0, 1) := by decide +kernel
theorem dX8_hasBit_15 : decode cX8_hasBit 15 = .ok (.ireturn, 1) := by decide +kernel
theorem dX8_at_0 : decode cX8_at 0 = .ok (.iload_n 1, 1) := by decide +kernel
theorem dX8_at_1 : decode cX8_at 1 = .ok (.ifCond .lt 15, 3) := by decide +kernel
theorem dX8_at_4 : decode cX8_at 4 = .ok (.iload_n 1, 1) := by decide +kernel
theorem dX8_at_5 : decode cX8_at 5 = .ok (.aload_n 0, 1) := by decide +kernel
theorem dX8_at_6 : decode cX8_at 6 = .ok (.arraylength, 1) := by decide +kernel
theorem dX8_at_7 : decode cX8_at 7 = .ok (.if_icmp .ge 9, 3) := by decide +kernel
theorem dX8_at_10 : decode cX8_at 10 = .ok (.aload_n 0, 1) := by decide +kernel
theorem dX8_at_11 : decode cX8_at 11 = .ok (.iload_n 1, 1) := by decide +kernel
theorem dX8_at_12 : decode cX8_at 12 = .ok (.iaload, 1) := by decide +kernel
theorem dX8_at_13 : decode cX8_at 13 = .ok (.goto 4, 3) := by decide +kernel
theorem dX8_at_16 : decode cX8_at 16 = .ok (.iconst 0, 1) := by decide +kernel
theorem dX8_at_17 : decode cX8_at 17 = .ok (.ireturn, 1) := by decide +kernel
theorem dX8_put_0 : decode cX8_put 0 = .ok (.iload_n 1, 1) := by decide +kernel
theorem dX8_put_1 : decode cX8_put 1 = .ok (.ifCond .lt 13, 3) := by decide +kernel
theorem dX8_put_4 : decode cX8_put 4 = .ok (.iload_n 1, 1) := by decide +kernel
theorem dX8_put_5 : decode cX8_put 5 = .ok (.aload_n 0, 1) := by decide +kernel
theorem dX8_put_6 : decode cX8_put 6 = .ok (.arraylength, 1) := by decide +kernel
theorem dX8_put_7 : decode cX8_put 7 = .ok (.if_icmp .ge 7, 3) := by decide +kernel
theorem dX8_put_10 : decode cX8_put 10 = .ok (.aload_n 0, 1) := by decide +kernel
theorem dX8_put_11 : decode cX8_put 11 = .ok (.iload_n 1, 1) := by decide +kernel
theorem dX8_put_12 : decode cX8_put 12 = .ok (.iload_n 2, 1) := by decide +kernel
theorem dX8_put_13 : decode cX8_put 13 = .ok (.iastore, 1) := by decide +kernel
theorem dX8_put_14 : decode cX8_put 14 = .ok (.return_, 1) := by decide +kernel
theorem dX8_copyRow_0 : decode cX8_copyRow 0 = .ok (.iconst 0, 1) := by decide +kernel
theorem dX8_copyRow_1 : decode cX8_copyRow 1 = .ok (.istore_n 2, 1) := by decide +kernel
theorem dX8_copyRow_2 : decode cX8_copyRow 2 = .ok (.iload_n 2, 1) := by decide +kernel
theorem dX8_copyRow_3 : decode cX8_copyRow 3 = .ok (.aload_n 0, 1) := by decide +kernel
theorem dX8_copyRow_4 : decode cX8_copyRow 4 = .ok (.arraylength, 1) := by decide +kernel
theorem dX8_copyRow_5 : decode cX8_copyRow 5 = .ok (.if_icmp .ge 21, 3) := by decide +kernel
theorem dX8_copyRow_8 : decode cX8_copyRow 8 = .ok (.iload_n 2, 1) := by decide +kernel
theorem dX8_copyRow_9 : decode cX8_copyRow 9 = .ok (.aload_n 1, 1) := by decide +kernel
theorem dX8_copyRow_10 : decode cX8_copyRow 10 = .ok (.arraylength, 1) := by decide +kernel
theorem dX8_copyRow_11 : decode cX8_copyRow 11 = .ok (.if_icmp .ge 15, 3) := by decide +kernel
theorem dX8_copyRow_14 : decode cX8_copyRow 14 = .ok (.aload_n 1, 1) := by decide +kernel
theorem dX8_copyRow_15 : decode cX8_copyRow 15 = .ok (.iload_n 2, 1) := by decide +kernel
theorem dX8_copyRow_16 : decode cX8_copyRow 16 = .ok (.aload_n 0, 1) := by decide +kernel
theorem dX8_copyRow_17 : decode cX8_copyRow 17 = .ok (.iload_n 2, 1) := by decide +kernel
theorem dX8_copyRow_18 : decode cX8_copyRow 18 = .ok (.iaload, 1) := by decide +kernel
theorem dX8_copyRow_19 : decode cX8_copyRow 19 = .ok (.iastore, 1) := by decide +kernel
theorem dX8_copyRow_20 : decode cX8_copyRow 20 = .ok (.iinc 2 1, 3) := by decide +kernel
theorem dX8_copyRow_23 : decode cX8_copyRow 23 = .ok (.goto (-21), 3) := by decide +kernel
theorem dX8_copyRow_26 : decode cX8_copyRow 26 = .ok (.return_, 1) := by decide +kernel
theorem dX9_init_0 : decode cX9_init 0 = .ok (.aload_n 0, 1) := by decide +kernel
theorem dX9_init_1 : decode cX9_init 1 = .ok (.invokespecial 1, 3) := by decide +kernel
theorem dX9_init_4 : decode cX9_init 4 = .ok (.aload_n 0, 1) := by decide +kernel
theorem dX9_init_5 : decode cX9_init 5 = .ok (.sipush 980, 3) := by decide +kernel
theorem dX9_init_8 : decode cX9_init 8 = .ok (.newarray .int, 2) := by decide +kernel
theorem dX9_init_10 : decode cX9_init 10 = .ok (.putfield 7, 3) := by decide +kernel
theorem dX9_init_13 : decode cX9_init 13 = .ok (.aload_n 0, 1) := by decide +kernel
theorem dX9_init_14 : decode cX9_init 14 = .ok (.sipush 1001, 3) := by decide +kernel
theorem dX9_init_17 : decode cX9_init 17 = .ok (.newarray .int, 2) := by decide +kernel
theorem dX9_init_19 : decode cX9_init 19 = .ok (.putfield 13, 3) := by decide +kernel
theorem dX9_init_22 : decode cX9_init 22 = .ok (.aload_n 0, 1) := by decide +kernel
theorem dX9_init_23 : decode cX9_init 23 = .ok (.bipush 80, 2) := by decide +kernel
theorem dX9_init_25 : decode cX9_init 25 = .ok (.newarray .int, 2) := by decide +kernel
theorem dX9_init_27 : decode cX9_init 27 = .ok (.putfield 16, 3) := by decide +kernel
theorem dX9_init_30 : decode cX9_init 30 = .ok (.aload_n 0, 1) := by decide +kernel
theorem dX9_init_31 : decode cX9_init 31 = .ok (.bipush 60, 2) := by decide +kernel
theorem dX9_init_33 : decode cX9_init 33 = .ok (.newarray .boolean, 2) := by decide +kernel
theorem dX9_init_35 : decode cX9_init 35 = .ok (.putfield 19, 3) := by decide +kernel
theorem dX9_init_38 : decode cX9_init 38 = .ok (.aload_n 0, 1) := by decide +kernel
theorem dX9_init_39 : decode cX9_init 39 = .ok (.sipush 2001, 3) := by decide +kernel
theorem dX9_init_42 : decode cX9_init 42 = .ok (.newarray .int, 2) := by decide +kernel
theorem dX9_init_44 : decode cX9_init 44 = .ok (.putfield 23, 3) := by decide +kernel
theorem dX9_init_47 : decode cX9_init 47 = .ok (.aload_n 0, 1) := by decide +kernel
theorem dX9_init_48 : decode cX9_init 48 = .ok (.bipush 60, 2) := by decide +kernel
theorem dX9_init_50 : decode cX9_init 50 = .ok (.newarray .int, 2) := by decide +kernel
theorem dX9_init_52 : decode cX9_init 52 = .ok (.putfield 26, 3) := by decide +kernel
theorem dX9_init_55 : decode cX9_init 55 = .ok (.aload_n 0, 1) := by decide +kernel
theorem dX9_init_56 : decode cX9_init 56 = .ok (.getfield 7, 3) := by decide +kernel
theorem dX9_init_59 : decode cX9_init 59 = .ok (.iconst 0, 1) := by decide +kernel
theorem dX9_init_60 : decode cX9_init 60 = .ok (.bipush 12, 2) := by decide +kernel
theorem dX9_init_62 : decode cX9_init 62 = .ok (.iastore, 1) := by decide +kernel
theorem dX9_init_63 : decode cX9_init 63 = .ok (.iconst 0, 1) := by decide +kernel
theorem dX9_init_64 : decode cX9_init 64 = .ok (.istore_n 1, 1) := by decide +kernel
theorem dX9_init_65 : decode cX9_init 65 = .ok (.iload_n 1, 1) := by decide +kernel
theorem dX9_init_66 : decode cX9_init 66 = .ok (.bipush 12, 2) := by decide +kernel
theorem dX9_init_68 : decode cX9_init 68 = .ok (.if_icmp .ge 18, 3) := by decide +kernel
theorem dX9_init_71 : decode cX9_init 71 = .ok (.aload_n 0, 1) := by decide +kernel
theorem dX9_init_72 : decode cX9_init 72 = .ok (.getfield 7, 3) := by decide +kernel
theorem dX9_init_75 : decode cX9_init 75 = .ok (.iconst 1, 1) := by decide +kernel
theorem dX9_init_76 : decode cX9_init 76 = .ok (.iload_n 1, 1) := by decide +kernel
theorem dX9_init_77 : decode cX9_init 77 = .ok (.iadd, 1) := by decide +kernel
theorem dX9_init_78 : decode cX9_init 78 = .ok (.iconst 1, 1) := by decide +kernel
theorem dX9_init_79 : decode cX9_init 79 = .ok (.iastore, 1) := by decide +kernel
theorem dX9_init_80 : decode cX9_init 80 = .ok (.iinc 1 3, 3) := by decide +kernel
theorem dX9_init_83 : decode cX9_init 83 = .ok (.goto (-18), 3) := by decide +kernel
theorem dX9_init_86 : decode cX9_init 86 = .ok (.aload_n 0, 1) := by decide +kernel
theorem dX9_init_87 : decode cX9_init 87 = .ok (.getfield 7, 3) := by decide +kernel
theorem dX9_init_90 : decode cX9_init 90 = .ok (.bipush 75, 2) := by decide +kernel
theorem dX9_init_92 : decode cX9_init 92 = .ok (.iconst 1, 1) := by decide +kernel
theorem dX9_init_93 : decode cX9_init 93 = .ok (.iastore, 1) := by decide +kernel
theorem dX9_init_94 : decode cX9_init 94 = .ok (.aload_n 0, 1) := by decide +kernel
theorem dX9_init_95 : decode cX9_init 95 = .ok (.getfield 7, 3) := by decide +kernel
theorem dX9_init_98 : decode cX9_init 98 = .ok (.bipush 93, 2) := by decide +kernel
theorem dX9_init_100 : decode cX9_init 100 = .ok (.bipush 100, 2) := by decide +kernel
theorem dX9_init_102 : decode cX9_init 102 = .ok (.iastore, 1) := by decide +kernel
theorem dX9_init_103 : decode cX9_init 103 = .ok (.aload_n 0, 1) := by decide +kernel
theorem dX9_init_104 : decode cX9_init 104 = .ok (.getfield 7, 3) := by decide +kernel
theorem dX9_init_107 : decode cX9_init 107 = .ok (.bipush 94, 2) := by decide +kernel
theorem dX9_init_109 : decode cX9_init 109 = .ok (.iconst 1, 1) := by decide +kernel
theorem dX9_init_110 : decode cX9_init 110 = .ok (.iastore, 1) := by decide +kernel
theorem dX9_init_111 : decode cX9_init 111 = .ok (.aload_n 0, 1) := by decide +kernel
theorem dX9_init_112 : decode cX9_init 112 = .ok (.getfield 7, 3) := by decide +kernel
theorem dX9_init_115 : decode cX9_init 115 = .ok (.bipush 95, 2) := by decide +kernel
theorem dX9_init_117 : decode cX9_init 117 = .ok (.iconst 1, 1) := by decide +kernel
theorem dX9_init_118 : decode cX9_init 118 = .ok (.iastore, 1) := by decide +kernel
theorem dX9_init_119 : decode cX9_init 119 = .ok (.return_, 1) := by decide +kernel
theorem dX9_in_0 : decode cX9_in 0 = .ok (.iload_n 0, 1) := by decide +kernel
theorem dX9_in_1 : decode cX9_in 1 = .ok (.iload_n 1, 1) := by decide +kernel
theorem dX9_in_2 : decode cX9_in 2 = .ok (.if_icmp .lt 12, 3) := by decide +kernel
theorem dX9_in_5 : decode cX9_in 5 = .ok (.iload_n 0, 1) := by decide +kernel
theorem dX9_in_6 : decode cX9_in 6 = .ok (.iload_n 2, 1) := by decide +kernel
theorem dX9_in_7 : decode cX9_in 7 = .ok (.if_icmp .gt 7, 3) := by decide +kernel
theorem dX9_in_10 : decode cX9_in 10 = .ok (.iconst 1, 1) := by decide +kernel
theorem dX9_in_11 : decode cX9_in 11 = .ok (.goto 4, 3) := by decide +kernel
theorem dX9_in_14 : decode cX9_in 14 = .ok (.iconst 0, 1) := by decide +kernel
theorem dX9_in_15 : decode cX9_in 15 = .ok (.ireturn, 1) := by decide +kernel
theorem dX9_copies_0 : decode cX9_copies 0 = .ok (.iconst 0, 1) := by decide +kernel
theorem dX9_copies_1 : decode cX9_copies 1 = .ok (.istore_n 3, 1) := by decide +kernel
theorem dX9_copies_2 : decode cX9_copies 2 = .ok (.iload_n 3, 1) := by decide +kernel
theorem dX9_copies_3 : decode cX9_copies 3 = .ok (.bipush 98, 2) := by decide +kernel
theorem dX9_copies_5 : decode cX9_copies 5 = .ok (.if_icmp .ge 31, 3) := by decide +kernel
theorem dX9_copies_8 : decode cX9_copies 8 = .ok (.aload_n 0, 1) := by decide +kernel
theorem dX9_copies_9 : decode cX9_copies 9 = .ok (.getfield 7, 3) := by decide +kernel
theorem dX9_copies_12 : decode cX9_copies 12 = .ok (.bipush 98, 2) := by decide +kernel
theorem dX9_copies_14 : decode cX9_copies 14 = .ok (.iload_n 2, 1) := by decide +kernel
theorem dX9_copies_15 : decode cX9_copies 15 = .ok (.imul, 1) := by decide +kernel
theorem dX9_copies_16 : decode cX9_copies 16 = .ok (.iload_n 3, 1) := by decide +kernel
theorem dX9_copies_17 : decode cX9_copies 17 = .ok (.iadd, 1) := by decide +kernel
theorem dX9_copies_18 : decode cX9_copies 18 = .ok (.aload_n 0, 1) := by decide +kernel
theorem dX9_copies_19 : decode cX9_copies 19 = .ok (.getfield 7, 3) := by decide +kernel
theorem dX9_copies_22 : decode cX9_copies 22 = .ok (.bipush 98, 2) := by decide +kernel
theorem dX9_copies_24 : decode cX9_copies 24 = .ok (.iload_n 1, 1) := by decide +kernel
theorem dX9_copies_25 : decode cX9_copies 25 = .ok (.imul, 1) := by decide +kernel
theorem dX9_copies_26 : decode cX9_copies 26 = .ok (.iload_n 3, 1) := by decide +kernel
theorem dX9_copies_27 : decode cX9_copies 27 = .ok (.iadd, 1) := by decide +kernel
theorem dX9_copies_28 : decode cX9_copies 28 = .ok (.iaload, 1) := by decide +kernel
theorem dX9_copies_29 : decode cX9_copies 29 = .ok (.iastore, 1) := by decide +kernel
theorem dX9_copies_30 : decode cX9_copies 30 = .ok (.iinc 3 1, 3) := by decide +kernel
theorem dX9_copies_33 : decode cX9_copies 33 = .ok (.goto (-31), 3) := by decide +kernel
theorem dX9_copies_36 : decode cX9_copies 36 = .ok (.return_, 1) := by decide +kernel
theorem dX9_records_0 : decode cX9_records 0 = .ok (.aload_n 0, 1) := by decide +kernel
theorem dX9_records_1 : decode cX9_records 1 = .ok (.getfield 29, 3) := by decide +kernel
theorem dX9_records_4 : decode cX9_records 4 = .ok (.bipush 8, 2) := by decide +kernel
theorem dX9_records_6 : decode cX9_records 6 = .ok (.if_icmp .ne 35, 3) := by decide +kernel
theorem dX9_records_9 : decode cX9_records 9 = .ok (.iconst 1, 1) := by decide +kernel
theorem dX9_records_10 : decode cX9_records 10 = .ok (.istore_n 1, 1) := by decide +kernel
theorem dX9_records_11 : decode cX9_records 11 = .ok (.iload_n 1, 1) := by decide +kernel
theorem dX9_records_12 : decode cX9_records 12 = .ok (.bipush 8, 2) := by decide +kernel
theorem dX9_records_14 : decode cX9_records 14 = .ok (.if_icmp .ge 17, 3) := by decide +kernel
theorem dX9_records_17 : decode cX9_records 17 = .ok (.aload_n 0, 1) := by decide +kernel
theorem dX9_records_18 : decode cX9_records 18 = .ok (.iload_n 1, 1) := by decide +kernel
theorem dX9_records_19 : decode cX9_records 19 = .ok (.iconst 1, 1) := by decide +kernel
theorem dX9_records_20 : decode cX9_records 20 = .ok (.iadd, 1) := by decide +kernel
theorem dX9_records_21 : decode cX9_records 21 = .ok (.iload_n 1, 1) := by decide +kernel
theorem dX9_records_22 : decode cX9_records 22 = .ok (.invokevirtual 33, 3) := by decide +kernel
theorem dX9_records_25 : decode cX9_records 25 = .ok (.iinc 1 1, 3) := by decide +kernel
theorem dX9_records_28 : decode cX9_records 28 = .ok (.goto (-17), 3) := by decide +kernel
theorem dX9_records_31 : decode cX9_records 31 = .ok (.aload_n 0, 1) := by decide +kernel
theorem dX9_records_32 : decode cX9_records 32 = .ok (.dup, 1) := by decide +kernel
theorem dX9_records_33 : decode cX9_records 33 = .ok (.getfield 29, 3) := by decide +kernel
theorem dX9_records_36 : decode cX9_records 36 = .ok (.iconst 1, 1) := by decide +kernel
theorem dX9_records_37 : decode cX9_records 37 = .ok (.isub, 1) := by decide +kernel
theorem dX9_records_38 : decode cX9_records 38 = .ok (.putfield 29, 3) := by decide +kernel
theorem dX9_records_41 : decode cX9_records 41 = .ok (.aload_n 0, 1) := by decide +kernel
theorem dX9_records_42 : decode cX9_records 42 = .ok (.dup, 1) := by decide +kernel
theorem dX9_records_43 : decode cX9_records 43 = .ok (.getfield 29, 3) := by decide +kernel
theorem dX9_records_46 : decode cX9_records 46 = .ok (.iconst 1, 1) := by decide +kernel
theorem dX9_records_47 : decode cX9_records 47 = .ok (.iadd, 1) := by decide +kernel
theorem dX9_records_48 : decode cX9_records 48 = .ok (.putfield 29, 3) := by decide +kernel
theorem dX9_records_51 : decode cX9_records 51 = .ok (.aload_n 0, 1) := by decide +kernel
theorem dX9_records_52 : decode cX9_records 52 = .ok (.iconst 0, 1) := by decide +kernel
theorem dX9_records_53 : decode cX9_records 53 = .ok (.aload_n 0, 1) := by decide +kernel
theorem dX9_records_54 : decode cX9_records 54 = .ok (.getfield 29, 3) := by decide +kernel
theorem dX9_records_57 : decode cX9_records 57 = .ok (.invokevirtual 33, 3) := by decide +kernel
theorem dX9_records_60 : decode cX9_records 60 = .ok (.return_, 1) := by decide +kernel
theorem dX9_undo_0 : decode cX9_undo 0 = .ok (.aload_n 0, 1) := by decide +kernel
theorem dX9_undo_1 : decode cX9_undo 1 = .ok (.getfield 29, 3) := by decide +kernel
theorem dX9_undo_4 : decode cX9_undo 4 = .ok (.ifCond .ne 7, 3) := by decide +kernel
theorem dX9_undo_7 : decode cX9_undo 7 = .ok (.sipush (-1002), 3) := by decide +kernel
theorem dX9_undo_10 : decode cX9_undo 10 = .ok (.ireturn, 1) := by decide +kernel
theorem dX9_undo_11 : decode cX9_undo 11 = .ok (.aload_n 0, 1) := by decide +kernel
theorem dX9_undo_12 : decode cX9_undo 12 = .ok (.aload_n 0, 1) := by decide +kernel
theorem dX9_undo_13 : decode cX9_undo 13 = .ok (.getfield 29, 3) := by decide +kernel
theorem dX9_undo_16 : decode cX9_undo 16 = .ok (.iconst 0, 1) := by decide +kernel
theorem dX9_undo_17 : decode cX9_undo 17 = .ok (.invokevirtual 33, 3) := by decide +kernel
theorem dX9_undo_20 : decode cX9_undo 20 = .ok (.aload_n 0, 1) := by decide +kernel
theorem dX9_undo_21 : decode cX9_undo 21 = .ok (.dup, 1) := by decide +kernel
theorem dX9_undo_22 : decode cX9_undo 22 = .ok (.getfield 29, 3) := by decide +kernel
theorem dX9_undo_25 : decode cX9_undo 25 = .ok (.iconst 1, 1) := by decide +kernel
theorem dX9_undo_26 : decode cX9_undo 26 = .ok (.isub, 1) := by decide +kernel
theorem dX9_undo_27 : decode cX9_undo 27 = .ok (.putfield 29, 3) := by decide +kernel
theorem dX9_undo_30 : decode cX9_undo 30 = .ok (.aload_n 0, 1) := by decide +kernel
theorem dX9_undo_31 : decode cX9_undo 31 = .ok (.getfield 29, 3) := by decide +kernel
theorem dX9_undo_34 : decode cX9_undo 34 = .ok (.ireturn, 1) := by decide +kernel
theorem dX9_modulo_0 : decode cX9_modulo 0 = .ok (.iload_n 0, 1) := by decide +kernel
theorem dX9_modulo_1 : decode cX9_modulo 1 = .ok (.iload_n 1, 1) := by decide +kernel
theorem dX9_modulo_2 : decode cX9_modulo 2 = .ok (.irem, 1) := by decide +kernel
theorem dX9_modulo_3 : decode cX9_modulo 3 = .ok (.istore_n 2, 1) := by decide +kernel
theorem dX9_modulo_4 : decode cX9_modulo 4 = .ok (.iload_n 2, 1) := by decide +kernel
theorem dX9_modulo_5 : decode cX9_modulo 5 = .ok (.ifCond .ge 9, 3) := by decide +kernel
theorem dX9_modulo_8 : decode cX9_modulo 8 = .ok (.iload_n 2, 1) := by decide +kernel
theorem dX9_modulo_9 : decode cX9_modulo 9 = .ok (.iload_n 1, 1) := by decide +kernel
theorem dX9_modulo_10 : decode cX9_modulo 10 = .ok (.iadd, 1) := by decide +kernel
theorem dX9_modulo_11 : decode cX9_modulo 11 = .ok (.goto 4, 3) := by decide +kernel
theorem dX9_modulo_14 : decode cX9_modulo 14 = .ok (.iload_n 2, 1) := by decide +kernel
theorem dX9_modulo_15 : decode cX9_modulo 15 = .ok (.ireturn, 1) := by decide +kernel
theorem dX9_cells_0 : decode cX9_cells 0 = .ok (.aload_n 0, 1) := by decide +kernel
theorem dX9_cells_1 : decode cX9_cells 1 = .ok (.getfield 7, 3) := by decide +kernel
theorem dX9_cells_4 : decode cX9_cells 4 = .ok (.iconst 0, 1) := by decide +kernel
theorem dX9_cells_5 : decode cX9_cells 5 = .ok (.iaload, 1) := by decide +kernel
theorem dX9_cells_6 : decode cX9_cells 6 = .ok (.ireturn, 1) := by decide +kernel
theorem dX9_measure_0 : decode cX9_measure 0 = .ok (.iconst 0, 1) := by decide +kernel
theorem dX9_measure_1 : decode cX9_measure 1 = .ok (.istore_n 1, 1) := by decide +kernel
theorem dX9_measure_2 : decode cX9_measure 2 = .ok (.iconst 0, 1) := by decide +kernel
theorem dX9_measure_3 : decode cX9_measure 3 = .ok (.istore_n 2, 1) := by decide +kernel
theorem dX9_measure_4 : decode cX9_measure 4 = .ok (.iload_n 2, 1) := by decide +kernel
theorem dX9_measure_5 : decode cX9_measure 5 = .ok (.ifCond .ne 63, 3) := by decide +kernel
theorem dX9_measure_8 : decode cX9_measure 8 = .ok (.iinc 1 1, 3) := by decide +kernel
theorem dX9_measure_11 : decode cX9_measure 11 = .ok (.iconst 1, 1) := by decide +kernel
theorem dX9_measure_12 : decode cX9_measure 12 = .ok (.istore_n 2, 1) := by decide +kernel
theorem dX9_measure_13 : decode cX9_measure 13 = .ok (.iconst 0, 1) := by decide +kernel
theorem dX9_measure_14 : decode cX9_measure 14 = .ok (.istore_n 3, 1) := by decide +kernel
theorem dX9_measure_15 : decode cX9_measure 15 = .ok (.iload_n 3, 1) := by decide +kernel
theorem dX9_measure_16 : decode cX9_measure 16 = .ok (.aload_n 0, 1) := by decide +kernel
theorem dX9_measure_17 : decode cX9_measure 17 = .ok (.invokevirtual 37, 3) := by decide +kernel
theorem dX9_measure_20 : decode cX9_measure 20 = .ok (.if_icmp .ge 45, 3) := by decide +kernel
theorem dX9_measure_23 : decode cX9_measure 23 = .ok (.iload_n 2, 1) := by decide +kernel
theorem dX9_measure_24 : decode cX9_measure 24 = .ok (.ifCond .eq 33, 3) := by decide +kernel
theorem dX9_measure_27 : decode cX9_measure 27 = .ok (.aload_n 0, 1) := by decide +kernel
theorem dX9_measure_28 : decode cX9_measure 28 = .ok (.getfield 7, 3) := by decide +kernel
theorem dX9_measure_31 : decode cX9_measure 31 = .ok (.iconst 1, 1) := by decide +kernel
theorem dX9_measure_32 : decode cX9_measure 32 = .ok (.iload_n 3, 1) := by decide +kernel
theorem dX9_measure_33 : decode cX9_measure 33 = .ok (.iadd, 1) := by decide +kernel
theorem dX9_measure_34 : decode cX9_measure 34 = .ok (.iaload, 1) := by decide +kernel
theorem dX9_measure_35 : decode cX9_measure 35 = .ok (.aload_n 0, 1) := by decide +kernel
theorem dX9_measure_36 : decode cX9_measure 36 = .ok (.getfield 7, 3) := by decide +kernel
theorem dX9_measure_39 : decode cX9_measure 39 = .ok (.iconst 1, 1) := by decide +kernel
theorem dX9_measure_40 : decode cX9_measure 40 = .ok (.iload_n 3, 1) := by decide +kernel
theorem dX9_measure_41 : decode cX9_measure 41 = .ok (.iload_n 1, 1) := by decide +kernel
theorem dX9_measure_42 : decode cX9_measure 42 = .ok (.iadd, 1) := by decide +kernel
theorem dX9_measure_43 : decode cX9_measure 43 = .ok (.aload_n 0, 1) := by decide +kernel
theorem dX9_measure_44 : decode cX9_measure 44 = .ok (.invokevirtual 37, 3) := by decide +kernel
theorem dX9_measure_47 : decode cX9_measure 47 = .ok (.irem, 1) := by decide +kernel
theorem dX9_measure_48 : decode cX9_measure 48 = .ok (.iadd, 1) := by decide +kernel
theorem dX9_measure_49 : decode cX9_measure 49 = .ok (.iaload, 1) := by decide +kernel
theorem dX9_measure_50 : decode cX9_measure 50 = .ok (.if_icmp .ne 7, 3) := by decide +kernel
theorem dX9_measure_53 : decode cX9_measure 53 = .ok (.iconst 1, 1) := by decide +kernel
theorem dX9_measure_54 : decode cX9_measure 54 = .ok (.goto 4, 3) := by decide +kernel
theorem dX9_measure_57 : decode cX9_measure 57 = .ok (.iconst 0, 1) := by decide +kernel
theorem dX9_measure_58 : decode cX9_measure 58 = .ok (.istore_n 2, 1) := by decide +kernel
theorem dX9_measure_59 : decode cX9_measure 59 = .ok (.iinc 3 1, 3) := by decide +kernel
theorem dX9_measure_62 : decode cX9_measure 62 = .ok (.goto (-47), 3) := by decide +kernel
theorem dX9_measure_65 : decode cX9_measure 65 = .ok (.goto (-61), 3) := by decide +kernel
theorem dX9_measure_68 : decode cX9_measure 68 = .ok (.iload_n 1, 1) := by decide +kernel
theorem dX9_measure_69 : decode cX9_measure 69 = .ok (.ireturn, 1) := by decide +kernel
theorem dX9_tickOf_0 : decode cX9_tickOf 0 = .ok (.aload_n 0, 1) := by decide +kernel
theorem dX9_tickOf_1 : decode cX9_tickOf 1 = .ok (.getfield 7, 3) := by decide +kernel
theorem dX9_tickOf_4 : decode cX9_tickOf 4 = .ok (.bipush 64, 2) := by decide +kernel
theorem dX9_tickOf_6 : decode cX9_tickOf 6 = .ok (.iconst 2, 1) := by decide +kernel
theorem dX9_tickOf_7 : decode cX9_tickOf 7 = .ok (.iload_n 1, 1) := by decide +kernel
theorem dX9_tickOf_8 : decode cX9_tickOf 8 = .ok (.imul, 1) := by decide +kernel
theorem dX9_tickOf_9 : decode cX9_tickOf 9 = .ok (.iadd, 1) := by decide +kernel
theorem dX9_tickOf_10 : decode cX9_tickOf 10 = .ok (.iaload, 1) := by decide +kernel
theorem dX9_tickOf_11 : decode cX9_tickOf 11 = .ok (.ireturn, 1) := by decide +kernel
theorem dX9_laysTurns_0 : decode cX9_laysTurns 0 = .ok (.iconst 0, 1) := by decide +kernel
theorem dX9_laysTurns_1 : decode cX9_laysTurns 1 = .ok (.istore_n 1, 1) := by decide +kernel
theorem dX9_laysTurns_2 : decode cX9_laysTurns 2 = .ok (.aload_n 0, 1) := by decide +kernel
theorem dX9_laysTurns_3 : decode cX9_laysTurns 3 = .ok (.getfield 7, 3) := by decide +kernel
theorem dX9_laysTurns_6 : decode cX9_laysTurns 6 = .ok (.bipush 62, 2) := by decide +kernel
theorem dX9_laysTurns_8 : decode cX9_laysTurns 8 = .ok (.iaload, 1) := by decide +kernel
theorem dX9_laysTurns_9 : decode cX9_laysTurns 9 = .ok (.istore_n 2, 1) := by decide +kernel
theorem dX9_laysTurns_10 : decode cX9_laysTurns 10 = .ok (.aload_n 0, 1) := by decide +kernel
theorem dX9_laysTurns_11 : decode cX9_laysTurns 11 = .ok (.aload_n 0, 1) := by decide +kernel
theorem dX9_laysTurns_12 : decode cX9_laysTurns 12 = .ok (.invokevirtual 41, 3) := by decide +kernel
theorem dX9_laysTurns_15 : decode cX9_laysTurns 15 = .ok (.putfield 44, 3) := by decide +kernel
theorem dX9_laysTurns_18 : decode cX9_laysTurns 18 = .ok (.aload_n 0, 1) := by decide +kernel
theorem dX9_laysTurns_19 : decode cX9_laysTurns 19 = .ok (.getfield 13, 3) := by decide +kernel
theorem dX9_laysTurns_22 : decode cX9_laysTurns 22 = .ok (.iconst 0, 1) := by decide +kernel
theorem dX9_laysTurns_23 : decode cX9_laysTurns 23 = .ok (.aload_n 0, 1) := by decide +kernel
theorem dX9_laysTurns_24 : decode cX9_laysTurns 24 = .ok (.getfield 7, 3) := by decide +kernel
theorem dX9_laysTurns_27 : decode cX9_laysTurns 27 = .ok (.bipush 61, 2) := by decide +kernel
theorem dX9_laysTurns_29 : decode cX9_laysTurns 29 = .ok (.iaload, 1) := by decide +kernel
theorem dX9_laysTurns_30 : decode cX9_laysTurns 30 = .ok (.aload_n 0, 1) := by decide +kernel
theorem dX9_laysTurns_31 : decode cX9_laysTurns 31 = .ok (.invokevirtual 37, 3) := by decide +kernel
theorem dX9_laysTurns_34 : decode cX9_laysTurns 34 = .ok (.invokestatic 47, 3) := by decide +kernel
theorem dX9_laysTurns_37 : decode cX9_laysTurns 37 = .ok (.iastore, 1) := by decide +kernel
theorem dX9_laysTurns_38 : decode cX9_laysTurns 38 = .ok (.iconst 0, 1) := by decide +kernel
theorem dX9_laysTurns_39 : decode cX9_laysTurns 39 = .ok (.istore_n 3, 1) := by decide +kernel
theorem dX9_laysTurns_40 : decode cX9_laysTurns 40 = .ok (.iload_n 3, 1) := by decide +kernel
theorem dX9_laysTurns_41 : decode cX9_laysTurns 41 = .ok (.sipush 1000, 3) := by decide +kernel
theorem dX9_laysTurns_44 : decode cX9_laysTurns 44 = .ok (.if_icmp .ge 69, 3) := by decide +kernel
theorem dX9_laysTurns_47 : decode cX9_laysTurns 47 = .ok (.iload_n 1, 1) := by decide +kernel
theorem dX9_laysTurns_48 : decode cX9_laysTurns 48 = .ok (.aload_n 0, 1) := by decide +kernel
theorem dX9_laysTurns_49 : decode cX9_laysTurns 49 = .ok (.getfield 7, 3) := by decide +kernel
theorem dX9_laysTurns_52 : decode cX9_laysTurns 52 = .ok (.bipush 63, 2) := by decide +kernel
theorem dX9_laysTurns_54 : decode cX9_laysTurns 54 = .ok (.iaload, 1) := by decide +kernel
theorem dX9_laysTurns_55 : decode cX9_laysTurns 55 = .ok (.if_icmp .ge 29, 3) := by decide +kernel
theorem dX9_laysTurns_58 : decode cX9_laysTurns 58 = .ok (.aload_n 0, 1) := by decide +kernel
theorem dX9_laysTurns_59 : decode cX9_laysTurns 59 = .ok (.iload_n 1, 1) := by decide +kernel
theorem dX9_laysTurns_60 : decode cX9_laysTurns 60 = .ok (.invokevirtual 51, 3) := by decide +kernel
theorem dX9_laysTurns_63 : decode cX9_laysTurns 63 = .ok (.iload_n 3, 1) := by decide +kernel
theorem dX9_laysTurns_64 : decode cX9_laysTurns 64 = .ok (.if_icmp .ne 20, 3) := by decide +kernel
theorem dX9_laysTurns_67 : decode cX9_laysTurns 67 = .ok (.aload_n 0, 1) := by decide +kernel
theorem dX9_laysTurns_68 : decode cX9_laysTurns 68 = .ok (.getfield 7, 3) := by decide +kernel
end
section
theorem dX9_laysTurns_71 : decode cX9_laysTurns 71 = .ok (.bipush 64, 2) := by decide +kernel
theorem dX9_laysTurns_73 : decode cX9_laysTurns 73 = .ok (.iconst 2, 1) := by decide +kernel
theorem dX9_laysTurns_74 : decode cX9_laysTurns 74 = .ok (.iload_n 1, 1) := by decide +kernel
theorem dX9_laysTurns_75 : decode cX9_laysTurns 75 = .ok (.imul, 1) := by decide +kernel
theorem dX9_laysTurns_76 : decode cX9_laysTurns 76 = .ok (.iadd, 1) := by decide +kernel
theorem dX9_laysTurns_77 : decode cX9_laysTurns 77 = .ok (.iconst 1, 1) := by decide +kernel
theorem dX9_laysTurns_78 : decode cX9_laysTurns 78 = .ok (.iadd, 1) := by decide +kernel
theorem dX9_laysTurns_79 : decode cX9_laysTurns 79 = .ok (.iaload, 1) := by decide +kernel
theorem dX9_laysTurns_80 : decode cX9_laysTurns 80 = .ok (.istore_n 2, 1) := by decide +kernel
theorem dX9_laysTurns_81 : decode cX9_laysTurns 81 = .ok (.iinc 1 1, 3) := by decide +kernel
theorem dX9_laysTurns_84 : decode cX9_laysTurns 84 = .ok (.aload_n 0, 1) := by decide +kernel
theorem dX9_laysTurns_85 : decode cX9_laysTurns 85 = .ok (.getfield 13, 3) := by decide +kernel
theorem dX9_laysTurns_88 : decode cX9_laysTurns 88 = .ok (.iload_n 3, 1) := by decide +kernel
theorem dX9_laysTurns_89 : decode cX9_laysTurns 89 = .ok (.iconst 1, 1) := by decide +kernel
theorem dX9_laysTurns_90 : decode cX9_laysTurns 90 = .ok (.iadd, 1) := by decide +kernel
theorem dX9_laysTurns_91 : decode cX9_laysTurns 91 = .ok (.aload_n 0, 1) := by decide +kernel
theorem dX9_laysTurns_92 : decode cX9_laysTurns 92 = .ok (.getfield 13, 3) := by decide +kernel
theorem dX9_laysTurns_95 : decode cX9_laysTurns 95 = .ok (.iload_n 3, 1) := by decide +kernel
theorem dX9_laysTurns_96 : decode cX9_laysTurns 96 = .ok (.iaload, 1) := by decide +kernel
theorem dX9_laysTurns_97 : decode cX9_laysTurns 97 = .ok (.iload_n 2, 1) := by decide +kernel
theorem dX9_laysTurns_98 : decode cX9_laysTurns 98 = .ok (.iadd, 1) := by decide +kernel
theorem dX9_laysTurns_99 : decode cX9_laysTurns 99 = .ok (.aload_n 0, 1) := by decide +kernel
theorem dX9_laysTurns_100 : decode cX9_laysTurns 100 = .ok (.invokevirtual 37, 3) := by decide +kernel
theorem dX9_laysTurns_103 : decode cX9_laysTurns 103 = .ok (.invokestatic 47, 3) := by decide +kernel
theorem dX9_laysTurns_106 : decode cX9_laysTurns 106 = .ok (.iastore, 1) := by decide +kernel
theorem dX9_laysTurns_107 : decode cX9_laysTurns 107 = .ok (.iinc 3 1, 3) := by decide +kernel
theorem dX9_laysTurns_110 : decode cX9_laysTurns 110 = .ok (.goto (-70), 3) := by decide +kernel
theorem dX9_laysTurns_113 : decode cX9_laysTurns 113 = .ok (.return_, 1) := by decide +kernel
theorem dX9_isTick_0 : decode cX9_isTick 0 = .ok (.iload_n 0, 1) := by decide +kernel
theorem dX9_isTick_1 : decode cX9_isTick 1 = .ok (.iconst 0, 1) := by decide +kernel
theorem dX9_isTick_2 : decode cX9_isTick 2 = .ok (.sipush 1000, 3) := by decide +kernel
theorem dX9_isTick_5 : decode cX9_isTick 5 = .ok (.invokestatic 55, 3) := by decide +kernel
theorem dX9_isTick_8 : decode cX9_isTick 8 = .ok (.ireturn, 1) := by decide +kernel
theorem dX9_isCell_0 : decode cX9_isCell 0 = .ok (.iload_n 1, 1) := by decide +kernel
theorem dX9_isCell_1 : decode cX9_isCell 1 = .ok (.iconst 0, 1) := by decide +kernel
theorem dX9_isCell_2 : decode cX9_isCell 2 = .ok (.aload_n 0, 1) := by decide +kernel
theorem dX9_isCell_3 : decode cX9_isCell 3 = .ok (.invokevirtual 37, 3) := by decide +kernel
theorem dX9_isCell_6 : decode cX9_isCell 6 = .ok (.iconst 1, 1) := by decide +kernel
theorem dX9_isCell_7 : decode cX9_isCell 7 = .ok (.isub, 1) := by decide +kernel
theorem dX9_isCell_8 : decode cX9_isCell 8 = .ok (.invokestatic 55, 3) := by decide +kernel
theorem dX9_isCell_11 : decode cX9_isCell 11 = .ok (.ireturn, 1) := by decide +kernel
theorem dX9_seenAt_0 : decode cX9_seenAt 0 = .ok (.aload_n 0, 1) := by decide +kernel
theorem dX9_seenAt_1 : decode cX9_seenAt 1 = .ok (.getfield 7, 3) := by decide +kernel
theorem dX9_seenAt_4 : decode cX9_seenAt 4 = .ok (.iconst 1, 1) := by decide +kernel
theorem dX9_seenAt_5 : decode cX9_seenAt 5 = .ok (.iload_n 2, 1) := by decide +kernel
theorem dX9_seenAt_6 : decode cX9_seenAt 6 = .ok (.aload_n 0, 1) := by decide +kernel
theorem dX9_seenAt_7 : decode cX9_seenAt 7 = .ok (.getfield 13, 3) := by decide +kernel
theorem dX9_seenAt_10 : decode cX9_seenAt 10 = .ok (.iload_n 1, 1) := by decide +kernel
theorem dX9_seenAt_11 : decode cX9_seenAt 11 = .ok (.iaload, 1) := by decide +kernel
theorem dX9_seenAt_12 : decode cX9_seenAt 12 = .ok (.isub, 1) := by decide +kernel
theorem dX9_seenAt_13 : decode cX9_seenAt 13 = .ok (.aload_n 0, 1) := by decide +kernel
theorem dX9_seenAt_14 : decode cX9_seenAt 14 = .ok (.invokevirtual 37, 3) := by decide +kernel
theorem dX9_seenAt_17 : decode cX9_seenAt 17 = .ok (.invokestatic 47, 3) := by decide +kernel
theorem dX9_seenAt_20 : decode cX9_seenAt 20 = .ok (.iadd, 1) := by decide +kernel
theorem dX9_seenAt_21 : decode cX9_seenAt 21 = .ok (.iaload, 1) := by decide +kernel
theorem dX9_seenAt_22 : decode cX9_seenAt 22 = .ok (.ireturn, 1) := by decide +kernel
theorem dX9_stepOf_0 : decode cX9_stepOf 0 = .ok (.aload_n 0, 1) := by decide +kernel
theorem dX9_stepOf_1 : decode cX9_stepOf 1 = .ok (.getfield 13, 3) := by decide +kernel
theorem dX9_stepOf_4 : decode cX9_stepOf 4 = .ok (.iload_n 2, 1) := by decide +kernel
theorem dX9_stepOf_5 : decode cX9_stepOf 5 = .ok (.iaload, 1) := by decide +kernel
theorem dX9_stepOf_6 : decode cX9_stepOf 6 = .ok (.aload_n 0, 1) := by decide +kernel
theorem dX9_stepOf_7 : decode cX9_stepOf 7 = .ok (.getfield 13, 3) := by decide +kernel
theorem dX9_stepOf_10 : decode cX9_stepOf 10 = .ok (.iload_n 1, 1) := by decide +kernel
theorem dX9_stepOf_11 : decode cX9_stepOf 11 = .ok (.iaload, 1) := by decide +kernel
theorem dX9_stepOf_12 : decode cX9_stepOf 12 = .ok (.isub, 1) := by decide +kernel
theorem dX9_stepOf_13 : decode cX9_stepOf 13 = .ok (.aload_n 0, 1) := by decide +kernel
theorem dX9_stepOf_14 : decode cX9_stepOf 14 = .ok (.getfield 44, 3) := by decide +kernel
theorem dX9_stepOf_17 : decode cX9_stepOf 17 = .ok (.invokestatic 47, 3) := by decide +kernel
theorem dX9_stepOf_20 : decode cX9_stepOf 20 = .ok (.istore_n 3, 1) := by decide +kernel
theorem dX9_stepOf_21 : decode cX9_stepOf 21 = .ok (.iconst 2, 1) := by decide +kernel
theorem dX9_stepOf_22 : decode cX9_stepOf 22 = .ok (.iload_n 3, 1) := by decide +kernel
theorem dX9_stepOf_23 : decode cX9_stepOf 23 = .ok (.imul, 1) := by decide +kernel
theorem dX9_stepOf_24 : decode cX9_stepOf 24 = .ok (.aload_n 0, 1) := by decide +kernel
theorem dX9_stepOf_25 : decode cX9_stepOf 25 = .ok (.getfield 44, 3) := by decide +kernel
theorem dX9_stepOf_28 : decode cX9_stepOf 28 = .ok (.if_icmp .gt 7, 3) := by decide +kernel
theorem dX9_stepOf_31 : decode cX9_stepOf 31 = .ok (.iload_n 3, 1) := by decide +kernel
theorem dX9_stepOf_32 : decode cX9_stepOf 32 = .ok (.goto 9, 3) := by decide +kernel
theorem dX9_stepOf_35 : decode cX9_stepOf 35 = .ok (.iload_n 3, 1) := by decide +kernel
theorem dX9_stepOf_36 : decode cX9_stepOf 36 = .ok (.aload_n 0, 1) := by decide +kernel
theorem dX9_stepOf_37 : decode cX9_stepOf 37 = .ok (.getfield 44, 3) := by decide +kernel
theorem dX9_stepOf_40 : decode cX9_stepOf 40 = .ok (.isub, 1) := by decide +kernel
theorem dX9_stepOf_41 : decode cX9_stepOf 41 = .ok (.ireturn, 1) := by decide +kernel
theorem dX9_isSamePicture_0 : decode cX9_isSamePicture 0 = .ok (.aload_n 0, 1) := by decide +kernel
theorem dX9_isSamePicture_1 : decode cX9_isSamePicture 1 = .ok (.iload_n 1, 1) := by decide +kernel
theorem dX9_isSamePicture_2 : decode cX9_isSamePicture 2 = .ok (.iload_n 2, 1) := by decide +kernel
theorem dX9_isSamePicture_3 : decode cX9_isSamePicture 3 = .ok (.invokevirtual 59, 3) := by decide +kernel
theorem dX9_isSamePicture_6 : decode cX9_isSamePicture 6 = .ok (.ifCond .ne 7, 3) := by decide +kernel
theorem dX9_isSamePicture_9 : decode cX9_isSamePicture 9 = .ok (.iconst 1, 1) := by decide +kernel
theorem dX9_isSamePicture_10 : decode cX9_isSamePicture 10 = .ok (.goto 4, 3) := by decide +kernel
theorem dX9_isSamePicture_13 : decode cX9_isSamePicture 13 = .ok (.iconst 0, 1) := by decide +kernel
theorem dX9_isSamePicture_14 : decode cX9_isSamePicture 14 = .ok (.ireturn, 1) := by decide +kernel
theorem dX9_type_0 : decode cX9_type 0 = .ok (.iload_n 1, 1) := by decide +kernel
theorem dX9_type_1 : decode cX9_type 1 = .ok (.bipush 32, 2) := by decide +kernel
theorem dX9_type_3 : decode cX9_type 3 = .ok (.bipush 126, 2) := by decide +kernel
theorem dX9_type_5 : decode cX9_type 5 = .ok (.invokestatic 55, 3) := by decide +kernel
theorem dX9_type_8 : decode cX9_type 8 = .ok (.ifCond .ne 7, 3) := by decide +kernel
theorem dX9_type_11 : decode cX9_type 11 = .ok (.sipush (-1001), 3) := by decide +kernel
theorem dX9_type_14 : decode cX9_type 14 = .ok (.ireturn, 1) := by decide +kernel
theorem dX9_type_15 : decode cX9_type 15 = .ok (.aload_n 0, 1) := by decide +kernel
theorem dX9_type_16 : decode cX9_type 16 = .ok (.getfield 62, 3) := by decide +kernel
theorem dX9_type_19 : decode cX9_type 19 = .ok (.bipush 80, 2) := by decide +kernel
theorem dX9_type_21 : decode cX9_type 21 = .ok (.if_icmp .ne 7, 3) := by decide +kernel
theorem dX9_type_24 : decode cX9_type 24 = .ok (.sipush (-1003), 3) := by decide +kernel
theorem dX9_type_27 : decode cX9_type 27 = .ok (.ireturn, 1) := by decide +kernel
theorem dX9_type_28 : decode cX9_type 28 = .ok (.aload_n 0, 1) := by decide +kernel
theorem dX9_type_29 : decode cX9_type 29 = .ok (.getfield 16, 3) := by decide +kernel
theorem dX9_type_32 : decode cX9_type 32 = .ok (.aload_n 0, 1) := by decide +kernel
theorem dX9_type_33 : decode cX9_type 33 = .ok (.getfield 62, 3) := by decide +kernel
theorem dX9_type_36 : decode cX9_type 36 = .ok (.iload_n 1, 1) := by decide +kernel
theorem dX9_type_37 : decode cX9_type 37 = .ok (.iastore, 1) := by decide +kernel
theorem dX9_type_38 : decode cX9_type 38 = .ok (.aload_n 0, 1) := by decide +kernel
theorem dX9_type_39 : decode cX9_type 39 = .ok (.dup, 1) := by decide +kernel
theorem dX9_type_40 : decode cX9_type 40 = .ok (.getfield 62, 3) := by decide +kernel
theorem dX9_type_43 : decode cX9_type 43 = .ok (.iconst 1, 1) := by decide +kernel
theorem dX9_type_44 : decode cX9_type 44 = .ok (.iadd, 1) := by decide +kernel
theorem dX9_type_45 : decode cX9_type 45 = .ok (.putfield 62, 3) := by decide +kernel
theorem dX9_type_48 : decode cX9_type 48 = .ok (.aload_n 0, 1) := by decide +kernel
theorem dX9_type_49 : decode cX9_type 49 = .ok (.getfield 62, 3) := by decide +kernel
theorem dX9_type_52 : decode cX9_type 52 = .ok (.ireturn, 1) := by decide +kernel
theorem dX9_clearText_0 : decode cX9_clearText 0 = .ok (.aload_n 0, 1) := by decide +kernel
theorem dX9_clearText_1 : decode cX9_clearText 1 = .ok (.getfield 62, 3) := by decide +kernel
theorem dX9_clearText_4 : decode cX9_clearText 4 = .ok (.istore_n 1, 1) := by decide +kernel
theorem dX9_clearText_5 : decode cX9_clearText 5 = .ok (.aload_n 0, 1) := by decide +kernel
theorem dX9_clearText_6 : decode cX9_clearText 6 = .ok (.iconst 0, 1) := by decide +kernel
theorem dX9_clearText_7 : decode cX9_clearText 7 = .ok (.putfield 62, 3) := by decide +kernel
theorem dX9_clearText_10 : decode cX9_clearText 10 = .ok (.iload_n 1, 1) := by decide +kernel
theorem dX9_clearText_11 : decode cX9_clearText 11 = .ok (.ireturn, 1) := by decide +kernel
theorem dX9_here_0 : decode cX9_here 0 = .ok (.aload_n 0, 1) := by decide +kernel
theorem dX9_here_1 : decode cX9_here 1 = .ok (.getfield 65, 3) := by decide +kernel
theorem dX9_here_4 : decode cX9_here 4 = .ok (.aload_n 0, 1) := by decide +kernel
theorem dX9_here_5 : decode cX9_here 5 = .ok (.getfield 62, 3) := by decide +kernel
theorem dX9_here_8 : decode cX9_here 8 = .ok (.if_icmp .ge 15, 3) := by decide +kernel
theorem dX9_here_11 : decode cX9_here 11 = .ok (.aload_n 0, 1) := by decide +kernel
theorem dX9_here_12 : decode cX9_here 12 = .ok (.getfield 16, 3) := by decide +kernel
theorem dX9_here_15 : decode cX9_here 15 = .ok (.aload_n 0, 1) := by decide +kernel
theorem dX9_here_16 : decode cX9_here 16 = .ok (.getfield 65, 3) := by decide +kernel
theorem dX9_here_19 : decode cX9_here 19 = .ok (.iaload, 1) := by decide +kernel
theorem dX9_here_20 : decode cX9_here 20 = .ok (.goto 6, 3) := by decide +kernel
theorem dX9_here_23 : decode cX9_here 23 = .ok (.sipush (-1004), 3) := by decide +kernel
theorem dX9_here_26 : decode cX9_here 26 = .ok (.ireturn, 1) := by decide +kernel
theorem dX9_isDigit_0 : decode cX9_isDigit 0 = .ok (.aload_n 0, 1) := by decide +kernel
theorem dX9_isDigit_1 : decode cX9_isDigit 1 = .ok (.invokevirtual 68, 3) := by decide +kernel
theorem dX9_isDigit_4 : decode cX9_isDigit 4 = .ok (.bipush 48, 2) := by decide +kernel
theorem dX9_isDigit_6 : decode cX9_isDigit 6 = .ok (.bipush 57, 2) := by decide +kernel
theorem dX9_isDigit_8 : decode cX9_isDigit 8 = .ok (.invokestatic 55, 3) := by decide +kernel
theorem dX9_isDigit_11 : decode cX9_isDigit 11 = .ok (.ireturn, 1) := by decide +kernel
theorem dX9_fails_0 : decode cX9_fails 0 = .ok (.aload_n 0, 1) := by decide +kernel
theorem dX9_fails_1 : decode cX9_fails 1 = .ok (.iload_n 1, 1) := by decide +kernel
theorem dX9_fails_2 : decode cX9_fails 2 = .ok (.putfield 71, 3) := by decide +kernel
theorem dX9_fails_5 : decode cX9_fails 5 = .ok (.aload_n 0, 1) := by decide +kernel
theorem dX9_fails_6 : decode cX9_fails 6 = .ok (.iload_n 2, 1) := by decide +kernel
theorem dX9_fails_7 : decode cX9_fails 7 = .ok (.putfield 74, 3) := by decide +kernel
theorem dX9_fails_10 : decode cX9_fails 10 = .ok (.iconst 0, 1) := by decide +kernel
theorem dX9_fails_11 : decode cX9_fails 11 = .ok (.ireturn, 1) := by decide +kernel
theorem dX9_readsNumber_0 : decode cX9_readsNumber 0 = .ok (.aload_n 0, 1) := by decide +kernel
theorem dX9_readsNumber_1 : decode cX9_readsNumber 1 = .ok (.getfield 65, 3) := by decide +kernel
theorem dX9_readsNumber_4 : decode cX9_readsNumber 4 = .ok (.istore 5, 2) := by decide +kernel
theorem dX9_readsNumber_6 : decode cX9_readsNumber 6 = .ok (.aload_n 0, 1) := by decide +kernel
theorem dX9_readsNumber_7 : decode cX9_readsNumber 7 = .ok (.iconst 0, 1) := by decide +kernel
theorem dX9_readsNumber_8 : decode cX9_readsNumber 8 = .ok (.putfield 77, 3) := by decide +kernel
theorem dX9_readsNumber_11 : decode cX9_readsNumber 11 = .ok (.aload_n 0, 1) := by decide +kernel
theorem dX9_readsNumber_12 : decode cX9_readsNumber 12 = .ok (.invokevirtual 80, 3) := by decide +kernel
theorem dX9_readsNumber_15 : decode cX9_readsNumber 15 = .ok (.ifCond .eq 46, 3) := by decide +kernel
theorem dX9_readsNumber_18 : decode cX9_readsNumber 18 = .ok (.aload_n 0, 1) := by decide +kernel
theorem dX9_readsNumber_19 : decode cX9_readsNumber 19 = .ok (.getfield 65, 3) := by decide +kernel
theorem dX9_readsNumber_22 : decode cX9_readsNumber 22 = .ok (.iload 5, 2) := by decide +kernel
theorem dX9_readsNumber_24 : decode cX9_readsNumber 24 = .ok (.iload_n 1, 1) := by decide +kernel
theorem dX9_readsNumber_25 : decode cX9_readsNumber 25 = .ok (.iadd, 1) := by decide +kernel
theorem dX9_readsNumber_26 : decode cX9_readsNumber 26 = .ok (.if_icmp .ge 35, 3) := by decide +kernel
theorem dX9_readsNumber_29 : decode cX9_readsNumber 29 = .ok (.aload_n 0, 1) := by decide +kernel
theorem dX9_readsNumber_30 : decode cX9_readsNumber 30 = .ok (.bipush 10, 2) := by decide +kernel
theorem dX9_readsNumber_32 : decode cX9_readsNumber 32 = .ok (.aload_n 0, 1) := by decide +kernel
theorem dX9_readsNumber_33 : decode cX9_readsNumber 33 = .ok (.getfield 77, 3) := by decide +kernel
theorem dX9_readsNumber_36 : decode cX9_readsNumber 36 = .ok (.imul, 1) := by decide +kernel
theorem dX9_readsNumber_37 : decode cX9_readsNumber 37 = .ok (.aload_n 0, 1) := by decide +kernel
theorem dX9_readsNumber_38 : decode cX9_readsNumber 38 = .ok (.invokevirtual 68, 3) := by decide +kernel
theorem dX9_readsNumber_41 : decode cX9_readsNumber 41 = .ok (.iadd, 1) := by decide +kernel
theorem dX9_readsNumber_42 : decode cX9_readsNumber 42 = .ok (.bipush 48, 2) := by decide +kernel
theorem dX9_readsNumber_44 : decode cX9_readsNumber 44 = .ok (.isub, 1) := by decide +kernel
theorem dX9_readsNumber_45 : decode cX9_readsNumber 45 = .ok (.putfield 77, 3) := by decide +kernel
theorem dX9_readsNumber_48 : decode cX9_readsNumber 48 = .ok (.aload_n 0, 1) := by decide +kernel
theorem dX9_readsNumber_49 : decode cX9_readsNumber 49 = .ok (.dup, 1) := by decide +kernel
theorem dX9_readsNumber_50 : decode cX9_readsNumber 50 = .ok (.getfield 65, 3) := by decide +kernel
theorem dX9_readsNumber_53 : decode cX9_readsNumber 53 = .ok (.iconst 1, 1) := by decide +kernel
theorem dX9_readsNumber_54 : decode cX9_readsNumber 54 = .ok (.iadd, 1) := by decide +kernel
theorem dX9_readsNumber_55 : decode cX9_readsNumber 55 = .ok (.putfield 65, 3) := by decide +kernel
theorem dX9_readsNumber_58 : decode cX9_readsNumber 58 = .ok (.goto (-47), 3) := by decide +kernel
theorem dX9_readsNumber_61 : decode cX9_readsNumber 61 = .ok (.aload_n 0, 1) := by decide +kernel
theorem dX9_readsNumber_62 : decode cX9_readsNumber 62 = .ok (.getfield 65, 3) := by decide +kernel
theorem dX9_readsNumber_65 : decode cX9_readsNumber 65 = .ok (.iload 5, 2) := by decide +kernel
theorem dX9_readsNumber_67 : decode cX9_readsNumber 67 = .ok (.if_icmp .eq 10, 3) := by decide +kernel
theorem dX9_readsNumber_70 : decode cX9_readsNumber 70 = .ok (.aload_n 0, 1) := by decide +kernel
theorem dX9_readsNumber_71 : decode cX9_readsNumber 71 = .ok (.invokevirtual 80, 3) := by decide +kernel
theorem dX9_readsNumber_74 : decode cX9_readsNumber 74 = .ok (.ifCond .eq 13, 3) := by decide +kernel
theorem dX9_readsNumber_77 : decode cX9_readsNumber 77 = .ok (.aload_n 0, 1) := by decide +kernel
theorem dX9_readsNumber_78 : decode cX9_readsNumber 78 = .ok (.iconst 1, 1) := by decide +kernel
theorem dX9_readsNumber_79 : decode cX9_readsNumber 79 = .ok (.aload_n 0, 1) := by decide +kernel
theorem dX9_readsNumber_80 : decode cX9_readsNumber 80 = .ok (.getfield 65, 3) := by decide +kernel
theorem dX9_readsNumber_83 : decode cX9_readsNumber 83 = .ok (.invokevirtual 84, 3) := by decide +kernel
theorem dX9_readsNumber_86 : decode cX9_readsNumber 86 = .ok (.ireturn, 1) := by decide +kernel
theorem dX9_readsNumber_87 : decode cX9_readsNumber 87 = .ok (.aload_n 0, 1) := by decide +kernel
theorem dX9_readsNumber_88 : decode cX9_readsNumber 88 = .ok (.dup, 1) := by decide +kernel
theorem dX9_readsNumber_89 : decode cX9_readsNumber 89 = .ok (.getfield 77, 3) := by decide +kernel
theorem dX9_readsNumber_92 : decode cX9_readsNumber 92 = .ok (.iload_n 2, 1) := by decide +kernel
theorem dX9_readsNumber_93 : decode cX9_readsNumber 93 = .ok (.imul, 1) := by decide +kernel
theorem dX9_readsNumber_94 : decode cX9_readsNumber 94 = .ok (.putfield 77, 3) := by decide +kernel
theorem dX9_readsNumber_97 : decode cX9_readsNumber 97 = .ok (.aload_n 0, 1) := by decide +kernel
theorem dX9_readsNumber_98 : decode cX9_readsNumber 98 = .ok (.getfield 77, 3) := by decide +kernel
theorem dX9_readsNumber_101 : decode cX9_readsNumber 101 = .ok (.iload_n 3, 1) := by decide +kernel
theorem dX9_readsNumber_102 : decode cX9_readsNumber 102 = .ok (.iload 4, 2) := by decide +kernel
theorem dX9_readsNumber_104 : decode cX9_readsNumber 104 = .ok (.invokestatic 55, 3) := by decide +kernel
theorem dX9_readsNumber_107 : decode cX9_readsNumber 107 = .ok (.ifCond .ne 13, 3) := by decide +kernel
theorem dX9_readsNumber_110 : decode cX9_readsNumber 110 = .ok (.aload_n 0, 1) := by decide +kernel
theorem dX9_readsNumber_111 : decode cX9_readsNumber 111 = .ok (.iconst 2, 1) := by decide +kernel
theorem dX9_readsNumber_112 : decode cX9_readsNumber 112 = .ok (.iload 5, 2) := by decide +kernel
theorem dX9_readsNumber_114 : decode cX9_readsNumber 114 = .ok (.invokevirtual 84, 3) := by decide +kernel
theorem dX9_readsNumber_117 : decode cX9_readsNumber 117 = .ok (.ifCond .eq 7, 3) := by decide +kernel
theorem dX9_readsNumber_120 : decode cX9_readsNumber 120 = .ok (.iconst 1, 1) := by decide +kernel
theorem dX9_readsNumber_121 : decode cX9_readsNumber 121 = .ok (.goto 4, 3) := by decide +kernel
theorem dX9_readsNumber_124 : decode cX9_readsNumber 124 = .ok (.iconst 0, 1) := by decide +kernel
theorem dX9_readsNumber_125 : decode cX9_readsNumber 125 = .ok (.ireturn, 1) := by decide +kernel
theorem dX9_readsCells_0 : decode cX9_readsCells 0 = .ok (.iconst 0, 1) := by decide +kernel
theorem dX9_readsCells_1 : decode cX9_readsCells 1 = .ok (.istore_n 1, 1) := by decide +kernel
theorem dX9_readsCells_2 : decode cX9_readsCells 2 = .ok (.iload_n 1, 1) := by decide +kernel
theorem dX9_readsCells_3 : decode cX9_readsCells 3 = .ok (.bipush 60, 2) := by decide +kernel
theorem dX9_readsCells_5 : decode cX9_readsCells 5 = .ok (.if_icmp .ge 72, 3) := by decide +kernel
theorem dX9_readsCells_8 : decode cX9_readsCells 8 = .ok (.aload_n 0, 1) := by decide +kernel
theorem dX9_readsCells_9 : decode cX9_readsCells 9 = .ok (.invokevirtual 68, 3) := by decide +kernel
theorem dX9_readsCells_12 : decode cX9_readsCells 12 = .ok (.bipush 46, 2) := by decide +kernel
theorem dX9_readsCells_14 : decode cX9_readsCells 14 = .ok (.if_icmp .eq 17, 3) := by decide +kernel
theorem dX9_readsCells_17 : decode cX9_readsCells 17 = .ok (.aload_n 0, 1) := by decide +kernel
theorem dX9_readsCells_18 : decode cX9_readsCells 18 = .ok (.invokevirtual 68, 3) := by decide +kernel
theorem dX9_readsCells_21 : decode cX9_readsCells 21 = .ok (.bipush 97, 2) := by decide +kernel
theorem dX9_readsCells_23 : decode cX9_readsCells 23 = .ok (.bipush 99, 2) := by decide +kernel
theorem dX9_readsCells_25 : decode cX9_readsCells 25 = .ok (.invokestatic 55, 3) := by decide +kernel
theorem dX9_readsCells_28 : decode cX9_readsCells 28 = .ok (.ifCond .eq 49, 3) := by decide +kernel
theorem dX9_readsCells_31 : decode cX9_readsCells 31 = .ok (.aload_n 0, 1) := by decide +kernel
theorem dX9_readsCells_32 : decode cX9_readsCells 32 = .ok (.getfield 7, 3) := by decide +kernel
theorem dX9_readsCells_35 : decode cX9_readsCells 35 = .ok (.iconst 1, 1) := by decide +kernel
theorem dX9_readsCells_36 : decode cX9_readsCells 36 = .ok (.iload_n 1, 1) := by decide +kernel
theorem dX9_readsCells_37 : decode cX9_readsCells 37 = .ok (.iadd, 1) := by decide +kernel
theorem dX9_readsCells_38 : decode cX9_readsCells 38 = .ok (.aload_n 0, 1) := by decide +kernel
theorem dX9_readsCells_39 : decode cX9_readsCells 39 = .ok (.invokevirtual 68, 3) := by decide +kernel
theorem dX9_readsCells_42 : decode cX9_readsCells 42 = .ok (.bipush 46, 2) := by decide +kernel
theorem dX9_readsCells_44 : decode cX9_readsCells 44 = .ok (.if_icmp .ne 7, 3) := by decide +kernel
theorem dX9_readsCells_47 : decode cX9_readsCells 47 = .ok (.iconst 0, 1) := by decide +kernel
theorem dX9_readsCells_48 : decode cX9_readsCells 48 = .ok (.goto 12, 3) := by decide +kernel
theorem dX9_readsCells_51 : decode cX9_readsCells 51 = .ok (.aload_n 0, 1) := by decide +kernel
theorem dX9_readsCells_52 : decode cX9_readsCells 52 = .ok (.invokevirtual 68, 3) := by decide +kernel
theorem dX9_readsCells_55 : decode cX9_readsCells 55 = .ok (.bipush 97, 2) := by decide +kernel
theorem dX9_readsCells_57 : decode cX9_readsCells 57 = .ok (.isub, 1) := by decide +kernel
theorem dX9_readsCells_58 : decode cX9_readsCells 58 = .ok (.iconst 1, 1) := by decide +kernel
theorem dX9_readsCells_59 : decode cX9_readsCells 59 = .ok (.iadd, 1) := by decide +kernel
theorem dX9_readsCells_60 : decode cX9_readsCells 60 = .ok (.iastore, 1) := by decide +kernel
theorem dX9_readsCells_61 : decode cX9_readsCells 61 = .ok (.aload_n 0, 1) := by decide +kernel
theorem dX9_readsCells_62 : decode cX9_readsCells 62 = .ok (.dup, 1) := by decide +kernel
theorem dX9_readsCells_63 : decode cX9_readsCells 63 = .ok (.getfield 65, 3) := by decide +kernel
theorem dX9_readsCells_66 : decode cX9_readsCells 66 = .ok (.iconst 1, 1) := by decide +kernel
theorem dX9_readsCells_67 : decode cX9_readsCells 67 = .ok (.iadd, 1) := by decide +kernel
theorem dX9_readsCells_68 : decode cX9_readsCells 68 = .ok (.putfield 65, 3) := by decide +kernel
theorem dX9_readsCells_71 : decode cX9_readsCells 71 = .ok (.iinc 1 1, 3) := by decide +kernel
theorem dX9_readsCells_74 : decode cX9_readsCells 74 = .ok (.goto (-72), 3) := by decide +kernel
theorem dX9_readsCells_77 : decode cX9_readsCells 77 = .ok (.aload_n 0, 1) := by decide +kernel
theorem dX9_readsCells_78 : decode cX9_readsCells 78 = .ok (.getfield 7, 3) := by decide +kernel
theorem dX9_readsCells_81 : decode cX9_readsCells 81 = .ok (.iconst 0, 1) := by decide +kernel
theorem dX9_readsCells_82 : decode cX9_readsCells 82 = .ok (.iload_n 1, 1) := by decide +kernel
theorem dX9_readsCells_83 : decode cX9_readsCells 83 = .ok (.iastore, 1) := by decide +kernel
theorem dX9_readsCells_84 : decode cX9_readsCells 84 = .ok (.iload_n 1, 1) := by decide +kernel
theorem dX9_readsCells_85 : decode cX9_readsCells 85 = .ok (.ifCond .gt 15, 3) := by decide +kernel
theorem dX9_readsCells_88 : decode cX9_readsCells 88 = .ok (.aload_n 0, 1) := by decide +kernel
theorem dX9_readsCells_89 : decode cX9_readsCells 89 = .ok (.iconst 1, 1) := by decide +kernel
theorem dX9_readsCells_90 : decode cX9_readsCells 90 = .ok (.aload_n 0, 1) := by decide +kernel
theorem dX9_readsCells_91 : decode cX9_readsCells 91 = .ok (.getfield 65, 3) := by decide +kernel
theorem dX9_readsCells_94 : decode cX9_readsCells 94 = .ok (.invokevirtual 84, 3) := by decide +kernel
theorem dX9_readsCells_97 : decode cX9_readsCells 97 = .ok (.ifCond .eq 7, 3) := by decide +kernel
theorem dX9_readsCells_100 : decode cX9_readsCells 100 = .ok (.iconst 1, 1) := by decide +kernel
theorem dX9_readsCells_101 : decode cX9_readsCells 101 = .ok (.goto 4, 3) := by decide +kernel
theorem dX9_readsCells_104 : decode cX9_readsCells 104 = .ok (.iconst 0, 1) := by decide +kernel
theorem dX9_readsCells_105 : decode cX9_readsCells 105 = .ok (.ireturn, 1) := by decide +kernel
theorem dX9_readsStart_0 : decode cX9_readsStart 0 = .ok (.aload_n 0, 1) := by decide +kernel
theorem dX9_readsStart_1 : decode cX9_readsStart 1 = .ok (.invokevirtual 68, 3) := by decide +kernel
theorem dX9_readsStart_4 : decode cX9_readsStart 4 = .ok (.bipush 64, 2) := by decide +kernel
theorem dX9_readsStart_6 : decode cX9_readsStart 6 = .ok (.if_icmp .eq 5, 3) := by decide +kernel
theorem dX9_readsStart_9 : decode cX9_readsStart 9 = .ok (.iconst 1, 1) := by decide +kernel
theorem dX9_readsStart_10 : decode cX9_readsStart 10 = .ok (.ireturn, 1) := by decide +kernel
theorem dX9_readsStart_11 : decode cX9_readsStart 11 = .ok (.aload_n 0, 1) := by decide +kernel
theorem dX9_readsStart_12 : decode cX9_readsStart 12 = .ok (.dup, 1) := by decide +kernel
theorem dX9_readsStart_13 : decode cX9_readsStart 13 = .ok (.getfield 65, 3) := by decide +kernel
theorem dX9_readsStart_16 : decode cX9_readsStart 16 = .ok (.iconst 1, 1) := by decide +kernel
theorem dX9_readsStart_17 : decode cX9_readsStart 17 = .ok (.iadd, 1) := by decide +kernel
theorem dX9_readsStart_18 : decode cX9_readsStart 18 = .ok (.putfield 65, 3) := by decide +kernel
theorem dX9_readsStart_21 : decode cX9_readsStart 21 = .ok (.aload_n 0, 1) := by decide +kernel
theorem dX9_readsStart_22 : decode cX9_readsStart 22 = .ok (.iconst 2, 1) := by decide +kernel
theorem dX9_readsStart_23 : decode cX9_readsStart 23 = .ok (.iconst 1, 1) := by decide +kernel
theorem dX9_readsStart_24 : decode cX9_readsStart 24 = .ok (.iconst 0, 1) := by decide +kernel
theorem dX9_readsStart_25 : decode cX9_readsStart 25 = .ok (.bipush 59, 2) := by decide +kernel
theorem dX9_readsStart_27 : decode cX9_readsStart 27 = .ok (.invokevirtual 88, 3) := by decide +kernel
theorem dX9_readsStart_30 : decode cX9_readsStart 30 = .ok (.istore_n 1, 1) := by decide +kernel
theorem dX9_readsStart_31 : decode cX9_readsStart 31 = .ok (.aload_n 0, 1) := by decide +kernel
theorem dX9_readsStart_32 : decode cX9_readsStart 32 = .ok (.getfield 7, 3) := by decide +kernel
theorem dX9_readsStart_35 : decode cX9_readsStart 35 = .ok (.bipush 61, 2) := by decide +kernel
theorem dX9_readsStart_37 : decode cX9_readsStart 37 = .ok (.aload_n 0, 1) := by decide +kernel
theorem dX9_readsStart_38 : decode cX9_readsStart 38 = .ok (.getfield 77, 3) := by decide +kernel
theorem dX9_readsStart_41 : decode cX9_readsStart 41 = .ok (.iastore, 1) := by decide +kernel
theorem dX9_readsStart_42 : decode cX9_readsStart 42 = .ok (.iload_n 1, 1) := by decide +kernel
theorem dX9_readsStart_43 : decode cX9_readsStart 43 = .ok (.ireturn, 1) := by decide +kernel
theorem dX9_readsSpeed_0 : decode cX9_readsSpeed 0 = .ok (.aload_n 0, 1) := by decide +kernel
theorem dX9_readsSpeed_1 : decode cX9_readsSpeed 1 = .ok (.invokevirtual 68, 3) := by decide +kernel
theorem dX9_readsSpeed_4 : decode cX9_readsSpeed 4 = .ok (.bipush 42, 2) := by decide +kernel
theorem dX9_readsSpeed_6 : decode cX9_readsSpeed 6 = .ok (.if_icmp .eq 5, 3) := by decide +kernel
theorem dX9_readsSpeed_9 : decode cX9_readsSpeed 9 = .ok (.iconst 1, 1) := by decide +kernel
theorem dX9_readsSpeed_10 : decode cX9_readsSpeed 10 = .ok (.ireturn, 1) := by decide +kernel
theorem dX9_readsSpeed_11 : decode cX9_readsSpeed 11 = .ok (.aload_n 0, 1) := by decide +kernel
theorem dX9_readsSpeed_12 : decode cX9_readsSpeed 12 = .ok (.dup, 1) := by decide +kernel
theorem dX9_readsSpeed_13 : decode cX9_readsSpeed 13 = .ok (.getfield 65, 3) := by decide +kernel
theorem dX9_readsSpeed_16 : decode cX9_readsSpeed 16 = .ok (.iconst 1, 1) := by decide +kernel
theorem dX9_readsSpeed_17 : decode cX9_readsSpeed 17 = .ok (.iadd, 1) := by decide +kernel
theorem dX9_readsSpeed_18 : decode cX9_readsSpeed 18 = .ok (.putfield 65, 3) := by decide +kernel
theorem dX9_readsSpeed_21 : decode cX9_readsSpeed 21 = .ok (.aload_n 0, 1) := by decide +kernel
theorem dX9_readsSpeed_22 : decode cX9_readsSpeed 22 = .ok (.invokevirtual 68, 3) := by decide +kernel
theorem dX9_readsSpeed_25 : decode cX9_readsSpeed 25 = .ok (.bipush 45, 2) := by decide +kernel
theorem dX9_readsSpeed_27 : decode cX9_readsSpeed 27 = .ok (.if_icmp .ne 7, 3) := by decide +kernel
theorem dX9_readsSpeed_30 : decode cX9_readsSpeed 30 = .ok (.iconst (-1), 1) := by decide +kernel
theorem dX9_readsSpeed_31 : decode cX9_readsSpeed 31 = .ok (.goto 4, 3) := by decide +kernel
theorem dX9_readsSpeed_34 : decode cX9_readsSpeed 34 = .ok (.iconst 1, 1) := by decide +kernel
theorem dX9_readsSpeed_35 : decode cX9_readsSpeed 35 = .ok (.istore_n 1, 1) := by decide +kernel
theorem dX9_readsSpeed_36 : decode cX9_readsSpeed 36 = .ok (.aload_n 0, 1) := by decide +kernel
theorem dX9_readsSpeed_37 : decode cX9_readsSpeed 37 = .ok (.dup, 1) := by decide +kernel
theorem dX9_readsSpeed_38 : decode cX9_readsSpeed 38 = .ok (.getfield 65, 3) := by decide +kernel
theorem dX9_readsSpeed_41 : decode cX9_readsSpeed 41 = .ok (.iload_n 1, 1) := by decide +kernel
theorem dX9_readsSpeed_42 : decode cX9_readsSpeed 42 = .ok (.ifCond .ge 7, 3) := by decide +kernel
theorem dX9_readsSpeed_45 : decode cX9_readsSpeed 45 = .ok (.iconst 1, 1) := by decide +kernel
theorem dX9_readsSpeed_46 : decode cX9_readsSpeed 46 = .ok (.goto 4, 3) := by decide +kernel
theorem dX9_readsSpeed_49 : decode cX9_readsSpeed 49 = .ok (.iconst 0, 1) := by decide +kernel
theorem dX9_readsSpeed_50 : decode cX9_readsSpeed 50 = .ok (.iadd, 1) := by decide +kernel
theorem dX9_readsSpeed_51 : decode cX9_readsSpeed 51 = .ok (.putfield 65, 3) := by decide +kernel
theorem dX9_readsSpeed_54 : decode cX9_readsSpeed 54 = .ok (.aload_n 0, 1) := by decide +kernel
theorem dX9_readsSpeed_55 : decode cX9_readsSpeed 55 = .ok (.iconst 4, 1) := by decide +kernel
theorem dX9_readsSpeed_56 : decode cX9_readsSpeed 56 = .ok (.iload_n 1, 1) := by decide +kernel
theorem dX9_readsSpeed_57 : decode cX9_readsSpeed 57 = .ok (.sipush (-1000), 3) := by decide +kernel
theorem dX9_readsSpeed_60 : decode cX9_readsSpeed 60 = .ok (.sipush 1000, 3) := by decide +kernel
theorem dX9_readsSpeed_63 : decode cX9_readsSpeed 63 = .ok (.invokevirtual 88, 3) := by decide +kernel
theorem dX9_readsSpeed_66 : decode cX9_readsSpeed 66 = .ok (.istore_n 2, 1) := by decide +kernel
theorem dX9_readsSpeed_67 : decode cX9_readsSpeed 67 = .ok (.aload_n 0, 1) := by decide +kernel
theorem dX9_readsSpeed_68 : decode cX9_readsSpeed 68 = .ok (.getfield 7, 3) := by decide +kernel
theorem dX9_readsSpeed_71 : decode cX9_readsSpeed 71 = .ok (.bipush 62, 2) := by decide +kernel
theorem dX9_readsSpeed_73 : decode cX9_readsSpeed 73 = .ok (.aload_n 0, 1) := by decide +kernel
theorem dX9_readsSpeed_74 : decode cX9_readsSpeed 74 = .ok (.getfield 77, 3) := by decide +kernel
theorem dX9_readsSpeed_77 : decode cX9_readsSpeed 77 = .ok (.iastore, 1) := by decide +kernel
theorem dX9_readsSpeed_78 : decode cX9_readsSpeed 78 = .ok (.iload_n 2, 1) := by decide +kernel
theorem dX9_readsSpeed_79 : decode cX9_readsSpeed 79 = .ok (.ireturn, 1) := by decide +kernel
theorem dX9_load_0 : decode cX9_load 0 = .ok (.aload_n 0, 1) := by decide +kernel
theorem dX9_load_1 : decode cX9_load 1 = .ok (.iconst 0, 1) := by decide +kernel
theorem dX9_load_2 : decode cX9_load 2 = .ok (.bipush 9, 2) := by decide +kernel
theorem dX9_load_4 : decode cX9_load 4 = .ok (.invokevirtual 33, 3) := by decide +kernel
theorem dX9_load_7 : decode cX9_load 7 = .ok (.aload_n 0, 1) := by decide +kernel
theorem dX9_load_8 : decode cX9_load 8 = .ok (.iconst 0, 1) := by decide +kernel
theorem dX9_load_9 : decode cX9_load 9 = .ok (.putfield 71, 3) := by decide +kernel
theorem dX9_load_12 : decode cX9_load 12 = .ok (.aload_n 0, 1) := by decide +kernel
theorem dX9_load_13 : decode cX9_load 13 = .ok (.iconst 0, 1) := by decide +kernel
theorem dX9_load_14 : decode cX9_load 14 = .ok (.putfield 65, 3) := by decide +kernel
theorem dX9_load_17 : decode cX9_load 17 = .ok (.aload_n 0, 1) := by decide +kernel
theorem dX9_load_18 : decode cX9_load 18 = .ok (.getfield 7, 3) := by decide +kernel
theorem dX9_load_21 : decode cX9_load 21 = .ok (.bipush 61, 2) := by decide +kernel
theorem dX9_load_23 : decode cX9_load 23 = .ok (.iconst 0, 1) := by decide +kernel
theorem dX9_load_24 : decode cX9_load 24 = .ok (.iastore, 1) := by decide +kernel
theorem dX9_load_25 : decode cX9_load 25 = .ok (.aload_n 0, 1) := by decide +kernel
theorem dX9_load_26 : decode cX9_load 26 = .ok (.getfield 7, 3) := by decide +kernel
theorem dX9_load_29 : decode cX9_load 29 = .ok (.bipush 62, 2) := by decide +kernel
theorem dX9_load_31 : decode cX9_load 31 = .ok (.iconst 0, 1) := by decide +kernel
theorem dX9_load_32 : decode cX9_load 32 = .ok (.iastore, 1) := by decide +kernel
theorem dX9_load_33 : decode cX9_load 33 = .ok (.aload_n 0, 1) := by decide +kernel
theorem dX9_load_34 : decode cX9_load 34 = .ok (.getfield 7, 3) := by decide +kernel
theorem dX9_load_37 : decode cX9_load 37 = .ok (.bipush 63, 2) := by decide +kernel
theorem dX9_load_39 : decode cX9_load 39 = .ok (.iconst 0, 1) := by decide +kernel
theorem dX9_load_40 : decode cX9_load 40 = .ok (.iastore, 1) := by decide +kernel
theorem dX9_load_41 : decode cX9_load 41 = .ok (.aload_n 0, 1) := by decide +kernel
theorem dX9_load_42 : decode cX9_load 42 = .ok (.invokevirtual 92, 3) := by decide +kernel
theorem dX9_load_45 : decode cX9_load 45 = .ok (.ifCond .eq 21, 3) := by decide +kernel
theorem dX9_load_48 : decode cX9_load 48 = .ok (.aload_n 0, 1) := by decide +kernel
theorem dX9_load_49 : decode cX9_load 49 = .ok (.invokevirtual 95, 3) := by decide +kernel
theorem dX9_load_52 : decode cX9_load 52 = .ok (.ifCond .eq 14, 3) := by decide +kernel
theorem dX9_load_55 : decode cX9_load 55 = .ok (.aload_n 0, 1) := by decide +kernel
theorem dX9_load_56 : decode cX9_load 56 = .ok (.invokevirtual 98, 3) := by decide +kernel
theorem dX9_load_59 : decode cX9_load 59 = .ok (.ifCond .eq 7, 3) := by decide +kernel
theorem dX9_load_62 : decode cX9_load 62 = .ok (.iconst 1, 1) := by decide +kernel
theorem dX9_load_63 : decode cX9_load 63 = .ok (.goto 4, 3) := by decide +kernel
theorem dX9_load_66 : decode cX9_load 66 = .ok (.iconst 0, 1) := by decide +kernel
theorem dX9_load_67 : decode cX9_load 67 = .ok (.istore_n 1, 1) := by decide +kernel
theorem dX9_load_68 : decode cX9_load 68 = .ok (.iload_n 1, 1) := by decide +kernel
theorem dX9_load_69 : decode cX9_load 69 = .ok (.ifCond .eq 30, 3) := by decide +kernel
theorem dX9_load_72 : decode cX9_load 72 = .ok (.aload_n 0, 1) := by decide +kernel
theorem dX9_load_73 : decode cX9_load 73 = .ok (.getfield 65, 3) := by decide +kernel
theorem dX9_load_76 : decode cX9_load 76 = .ok (.aload_n 0, 1) := by decide +kernel
theorem dX9_load_77 : decode cX9_load 77 = .ok (.getfield 62, 3) := by decide +kernel
theorem dX9_load_80 : decode cX9_load 80 = .ok (.if_icmp .eq 15, 3) := by decide +kernel
theorem dX9_load_83 : decode cX9_load 83 = .ok (.aload_n 0, 1) := by decide +kernel
theorem dX9_load_84 : decode cX9_load 84 = .ok (.iconst 1, 1) := by decide +kernel
theorem dX9_load_85 : decode cX9_load 85 = .ok (.aload_n 0, 1) := by decide +kernel
theorem dX9_load_86 : decode cX9_load 86 = .ok (.getfield 65, 3) := by decide +kernel
theorem dX9_load_89 : decode cX9_load 89 = .ok (.invokevirtual 84, 3) := by decide +kernel
theorem dX9_load_92 : decode cX9_load 92 = .ok (.ifCond .eq 7, 3) := by decide +kernel
theorem dX9_load_95 : decode cX9_load 95 = .ok (.iconst 1, 1) := by decide +kernel
theorem dX9_load_96 : decode cX9_load 96 = .ok (.goto 4, 3) := by decide +kernel
theorem dX9_load_99 : decode cX9_load 99 = .ok (.iconst 0, 1) := by decide +kernel
theorem dX9_load_100 : decode cX9_load 100 = .ok (.istore_n 1, 1) := by decide +kernel
theorem dX9_load_101 : decode cX9_load 101 = .ok (.iload_n 1, 1) := by decide +kernel
theorem dX9_load_102 : decode cX9_load 102 = .ok (.ifCond .ne 18, 3) := by decide +kernel
theorem dX9_load_105 : decode cX9_load 105 = .ok (.aload_n 0, 1) := by decide +kernel
theorem dX9_load_106 : decode cX9_load 106 = .ok (.bipush 9, 2) := by decide +kernel
theorem dX9_load_108 : decode cX9_load 108 = .ok (.iconst 0, 1) := by decide +kernel
theorem dX9_load_109 : decode cX9_load 109 = .ok (.invokevirtual 33, 3) := by decide +kernel
theorem dX9_load_112 : decode cX9_load 112 = .ok (.bipush (-10), 2) := by decide +kernel
theorem dX9_load_114 : decode cX9_load 114 = .ok (.aload_n 0, 1) := by decide +kernel
theorem dX9_load_115 : decode cX9_load 115 = .ok (.getfield 74, 3) := by decide +kernel
theorem dX9_load_118 : decode cX9_load 118 = .ok (.isub, 1) := by decide +kernel
theorem dX9_load_119 : decode cX9_load 119 = .ok (.ireturn, 1) := by decide +kernel
theorem dX9_load_120 : decode cX9_load 120 = .ok (.iconst 0, 1) := by decide +kernel
theorem dX9_load_121 : decode cX9_load 121 = .ok (.istore_n 2, 1) := by decide +kernel
theorem dX9_load_122 : decode cX9_load 122 = .ok (.iload_n 2, 1) := by decide +kernel
theorem dX9_load_123 : decode cX9_load 123 = .ok (.bipush 98, 2) := by decide +kernel
theorem dX9_load_125 : decode cX9_load 125 = .ok (.if_icmp .ge 43, 3) := by decide +kernel
theorem dX9_load_128 : decode cX9_load 128 = .ok (.aload_n 0, 1) := by decide +kernel
theorem dX9_load_129 : decode cX9_load 129 = .ok (.getfield 7, 3) := by decide +kernel
theorem dX9_load_132 : decode cX9_load 132 = .ok (.iload_n 2, 1) := by decide +kernel
theorem dX9_load_133 : decode cX9_load 133 = .ok (.iaload, 1) := by decide +kernel
theorem dX9_load_134 : decode cX9_load 134 = .ok (.istore_n 3, 1) := by decide +kernel
theorem dX9_load_135 : decode cX9_load 135 = .ok (.aload_n 0, 1) := by decide +kernel
theorem dX9_load_136 : decode cX9_load 136 = .ok (.getfield 7, 3) := by decide +kernel
theorem dX9_load_139 : decode cX9_load 139 = .ok (.iload_n 2, 1) := by decide +kernel
theorem dX9_load_140 : decode cX9_load 140 = .ok (.aload_n 0, 1) := by decide +kernel
theorem dX9_load_141 : decode cX9_load 141 = .ok (.getfield 7, 3) := by decide +kernel
theorem dX9_load_144 : decode cX9_load 144 = .ok (.sipush 882, 3) := by decide +kernel
theorem dX9_load_147 : decode cX9_load 147 = .ok (.iload_n 2, 1) := by decide +kernel
theorem dX9_load_148 : decode cX9_load 148 = .ok (.iadd, 1) := by decide +kernel
theorem dX9_load_149 : decode cX9_load 149 = .ok (.iaload, 1) := by decide +kernel
theorem dX9_load_150 : decode cX9_load 150 = .ok (.iastore, 1) := by decide +kernel
theorem dX9_load_151 : decode cX9_load 151 = .ok (.aload_n 0, 1) := by decide +kernel
theorem dX9_load_152 : decode cX9_load 152 = .ok (.getfield 7, 3) := by decide +kernel
theorem dX9_load_155 : decode cX9_load 155 = .ok (.sipush 882, 3) := by decide +kernel
theorem dX9_load_158 : decode cX9_load 158 = .ok (.iload_n 2, 1) := by decide +kernel
theorem dX9_load_159 : decode cX9_load 159 = .ok (.iadd, 1) := by decide +kernel
theorem dX9_load_160 : decode cX9_load 160 = .ok (.iload_n 3, 1) := by decide +kernel
theorem dX9_load_161 : decode cX9_load 161 = .ok (.iastore, 1) := by decide +kernel
theorem dX9_load_162 : decode cX9_load 162 = .ok (.iinc 2 1, 3) := by decide +kernel
theorem dX9_load_165 : decode cX9_load 165 = .ok (.goto (-43), 3) := by decide +kernel
theorem dX9_load_168 : decode cX9_load 168 = .ok (.aload_n 0, 1) := by decide +kernel
theorem dX9_load_169 : decode cX9_load 169 = .ok (.invokevirtual 101, 3) := by decide +kernel
theorem dX9_load_172 : decode cX9_load 172 = .ok (.aload_n 0, 1) := by decide +kernel
theorem dX9_load_173 : decode cX9_load 173 = .ok (.bipush 9, 2) := by decide +kernel
theorem dX9_load_175 : decode cX9_load 175 = .ok (.iconst 0, 1) := by decide +kernel
theorem dX9_load_176 : decode cX9_load 176 = .ok (.invokevirtual 33, 3) := by decide +kernel
theorem dX9_load_179 : decode cX9_load 179 = .ok (.aload_n 0, 1) := by decide +kernel
theorem dX9_load_180 : decode cX9_load 180 = .ok (.invokevirtual 37, 3) := by decide +kernel
theorem dX9_load_183 : decode cX9_load 183 = .ok (.ireturn, 1) := by decide +kernel
theorem dX9_faultKind_0 : decode cX9_faultKind 0 = .ok (.aload_n 0, 1) := by decide +kernel
theorem dX9_faultKind_1 : decode cX9_faultKind 1 = .ok (.getfield 71, 3) := by decide +kernel
theorem dX9_faultKind_4 : decode cX9_faultKind 4 = .ok (.ireturn, 1) := by decide +kernel
theorem dX9_becomes_0 : decode cX9_becomes 0 = .ok (.aload_n 0, 1) := by decide +kernel
theorem dX9_becomes_1 : decode cX9_becomes 1 = .ok (.invokevirtual 101, 3) := by decide +kernel
theorem dX9_becomes_4 : decode cX9_becomes 4 = .ok (.aload_n 0, 1) := by decide +kernel
theorem dX9_becomes_5 : decode cX9_becomes 5 = .ok (.getfield 7, 3) := by decide +kernel
theorem dX9_becomes_8 : decode cX9_becomes 8 = .ok (.iload_n 1, 1) := by decide +kernel
theorem dX9_becomes_9 : decode cX9_becomes 9 = .ok (.iaload, 1) := by decide +kernel
theorem dX9_becomes_10 : decode cX9_becomes 10 = .ok (.istore_n 3, 1) := by decide +kernel
theorem dX9_becomes_11 : decode cX9_becomes 11 = .ok (.aload_n 0, 1) := by decide +kernel
theorem dX9_becomes_12 : decode cX9_becomes 12 = .ok (.getfield 7, 3) := by decide +kernel
theorem dX9_becomes_15 : decode cX9_becomes 15 = .ok (.iload_n 1, 1) := by decide +kernel
theorem dX9_becomes_16 : decode cX9_becomes 16 = .ok (.iload_n 2, 1) := by decide +kernel
theorem dX9_becomes_17 : decode cX9_becomes 17 = .ok (.iastore, 1) := by decide +kernel
theorem dX9_becomes_18 : decode cX9_becomes 18 = .ok (.iload_n 3, 1) := by decide +kernel
theorem dX9_becomes_19 : decode cX9_becomes 19 = .ok (.ireturn, 1) := by decide +kernel
theorem dX9_setMark_0 : decode cX9_setMark 0 = .ok (.aload_n 0, 1) := by decide +kernel
theorem dX9_setMark_1 : decode cX9_setMark 1 = .ok (.iload_n 1, 1) := by decide +kernel
theorem dX9_setMark_2 : decode cX9_setMark 2 = .ok (.invokevirtual 104, 3) := by decide +kernel
theorem dX9_setMark_5 : decode cX9_setMark 5 = .ok (.ifCond .eq 23, 3) := by decide +kernel
theorem dX9_setMark_8 : decode cX9_setMark 8 = .ok (.iload_n 2, 1) := by decide +kernel
theorem dX9_setMark_9 : decode cX9_setMark 9 = .ok (.iconst 0, 1) := by decide +kernel
theorem dX9_setMark_10 : decode cX9_setMark 10 = .ok (.iconst 3, 1) := by decide +kernel
theorem dX9_setMark_11 : decode cX9_setMark 11 = .ok (.invokestatic 55, 3) := by decide +kernel
theorem dX9_setMark_14 : decode cX9_setMark 14 = .ok (.ifCond .eq 14, 3) := by decide +kernel
theorem dX9_setMark_17 : decode cX9_setMark 17 = .ok (.aload_n 0, 1) := by decide +kernel
theorem dX9_setMark_18 : decode cX9_setMark 18 = .ok (.iconst 1, 1) := by decide +kernel
theorem dX9_setMark_19 : decode cX9_setMark 19 = .ok (.iload_n 1, 1) := by decide +kernel
theorem dX9_setMark_20 : decode cX9_setMark 20 = .ok (.iadd, 1) := by decide +kernel
theorem dX9_setMark_21 : decode cX9_setMark 21 = .ok (.iload_n 2, 1) := by decide +kernel
theorem dX9_setMark_22 : decode cX9_setMark 22 = .ok (.invokevirtual 108, 3) := by decide +kernel
theorem dX9_setMark_25 : decode cX9_setMark 25 = .ok (.goto 6, 3) := by decide +kernel
theorem dX9_setMark_28 : decode cX9_setMark 28 = .ok (.sipush (-1001), 3) := by decide +kernel
theorem dX9_setMark_31 : decode cX9_setMark 31 = .ok (.ireturn, 1) := by decide +kernel
theorem dX9_setStart_0 : decode cX9_setStart 0 = .ok (.iload_n 1, 1) := by decide +kernel
theorem dX9_setStart_1 : decode cX9_setStart 1 = .ok (.iconst 0, 1) := by decide +kernel
theorem dX9_setStart_2 : decode cX9_setStart 2 = .ok (.bipush 59, 2) := by decide +kernel
theorem dX9_setStart_4 : decode cX9_setStart 4 = .ok (.invokestatic 55, 3) := by decide +kernel
theorem dX9_setStart_7 : decode cX9_setStart 7 = .ok (.ifCond .eq 13, 3) := by decide +kernel
theorem dX9_setStart_10 : decode cX9_setStart 10 = .ok (.aload_n 0, 1) := by decide +kernel
theorem dX9_setStart_11 : decode cX9_setStart 11 = .ok (.bipush 61, 2) := by decide +kernel
theorem dX9_setStart_13 : decode cX9_setStart 13 = .ok (.iload_n 1, 1) := by decide +kernel
theorem dX9_setStart_14 : decode cX9_setStart 14 = .ok (.invokevirtual 108, 3) := by decide +kernel
theorem dX9_setStart_17 : decode cX9_setStart 17 = .ok (.goto 6, 3) := by decide +kernel
theorem dX9_setStart_20 : decode cX9_setStart 20 = .ok (.sipush (-1001), 3) := by decide +kernel
theorem dX9_setStart_23 : decode cX9_setStart 23 = .ok (.ireturn, 1) := by decide +kernel
theorem dX9_changeFrom_0 : decode cX9_changeFrom 0 = .ok (.iconst 0, 1) := by decide +kernel
theorem dX9_changeFrom_1 : decode cX9_changeFrom 1 = .ok (.istore_n 2, 1) := by decide +kernel
theorem dX9_changeFrom_2 : decode cX9_changeFrom 2 = .ok (.iload_n 2, 1) := by decide +kernel
theorem dX9_changeFrom_3 : decode cX9_changeFrom 3 = .ok (.aload_n 0, 1) := by decide +kernel
theorem dX9_changeFrom_4 : decode cX9_changeFrom 4 = .ok (.getfield 7, 3) := by decide +kernel
theorem dX9_changeFrom_7 : decode cX9_changeFrom 7 = .ok (.bipush 63, 2) := by decide +kernel
theorem dX9_changeFrom_9 : decode cX9_changeFrom 9 = .ok (.iaload, 1) := by decide +kernel
theorem dX9_changeFrom_10 : decode cX9_changeFrom 10 = .ok (.if_icmp .ge 18, 3) := by decide +kernel
theorem dX9_changeFrom_13 : decode cX9_changeFrom 13 = .ok (.aload_n 0, 1) := by decide +kernel
theorem dX9_changeFrom_14 : decode cX9_changeFrom 14 = .ok (.iload_n 2, 1) := by decide +kernel
theorem dX9_changeFrom_15 : decode cX9_changeFrom 15 = .ok (.invokevirtual 51, 3) := by decide +kernel
theorem dX9_changeFrom_18 : decode cX9_changeFrom 18 = .ok (.iload_n 1, 1) := by decide +kernel
theorem dX9_changeFrom_19 : decode cX9_changeFrom 19 = .ok (.if_icmp .ge 9, 3) := by decide +kernel
theorem dX9_changeFrom_22 : decode cX9_changeFrom 22 = .ok (.iinc 2 1, 3) := by decide +kernel
theorem dX9_changeFrom_25 : decode cX9_changeFrom 25 = .ok (.goto (-23), 3) := by decide +kernel
theorem dX9_changeFrom_28 : decode cX9_changeFrom 28 = .ok (.iload_n 2, 1) := by decide +kernel
theorem dX9_changeFrom_29 : decode cX9_changeFrom 29 = .ok (.ireturn, 1) := by decide +kernel
theorem dX9_isChange_0 : decode cX9_isChange 0 = .ok (.aload_n 0, 1) := by decide +kernel
theorem dX9_isChange_1 : decode cX9_isChange 1 = .ok (.iload_n 1, 1) := by decide +kernel
theorem dX9_isChange_2 : decode cX9_isChange 2 = .ok (.invokevirtual 111, 3) := by decide +kernel
theorem dX9_isChange_5 : decode cX9_isChange 5 = .ok (.istore_n 2, 1) := by decide +kernel
theorem dX9_isChange_6 : decode cX9_isChange 6 = .ok (.iload_n 2, 1) := by decide +kernel
theorem dX9_isChange_7 : decode cX9_isChange 7 = .ok (.aload_n 0, 1) := by decide +kernel
theorem dX9_isChange_8 : decode cX9_isChange 8 = .ok (.getfield 7, 3) := by decide +kernel
theorem dX9_isChange_11 : decode cX9_isChange 11 = .ok (.bipush 63, 2) := by decide +kernel
theorem dX9_isChange_13 : decode cX9_isChange 13 = .ok (.iaload, 1) := by decide +kernel
theorem dX9_isChange_14 : decode cX9_isChange 14 = .ok (.if_icmp .ge 16, 3) := by decide +kernel
theorem dX9_isChange_17 : decode cX9_isChange 17 = .ok (.aload_n 0, 1) := by decide +kernel
theorem dX9_isChange_18 : decode cX9_isChange 18 = .ok (.iload_n 2, 1) := by decide +kernel
theorem dX9_isChange_19 : decode cX9_isChange 19 = .ok (.invokevirtual 51, 3) := by decide +kernel
theorem dX9_isChange_22 : decode cX9_isChange 22 = .ok (.iload_n 1, 1) := by decide +kernel
theorem dX9_isChange_23 : decode cX9_isChange 23 = .ok (.if_icmp .ne 7, 3) := by decide +kernel
theorem dX9_isChange_26 : decode cX9_isChange 26 = .ok (.iconst 1, 1) := by decide +kernel
theorem dX9_isChange_27 : decode cX9_isChange 27 = .ok (.goto 4, 3) := by decide +kernel
theorem dX9_isChange_30 : decode cX9_isChange 30 = .ok (.iconst 0, 1) := by decide +kernel
theorem dX9_isChange_31 : decode cX9_isChange 31 = .ok (.ireturn, 1) := by decide +kernel
theorem dX9_setSpeed_0 : decode cX9_setSpeed 0 = .ok (.iload_n 1, 1) := by decide +kernel
theorem dX9_setSpeed_1 : decode cX9_setSpeed 1 = .ok (.invokestatic 114, 3) := by decide +kernel
theorem dX9_setSpeed_4 : decode cX9_setSpeed 4 = .ok (.ifCond .eq 16, 3) := by decide +kernel
theorem dX9_setSpeed_7 : decode cX9_setSpeed 7 = .ok (.iload_n 2, 1) := by decide +kernel
theorem dX9_setSpeed_8 : decode cX9_setSpeed 8 = .ok (.sipush (-1000), 3) := by decide +kernel
theorem dX9_setSpeed_11 : decode cX9_setSpeed 11 = .ok (.sipush 1000, 3) := by decide +kernel
theorem dX9_setSpeed_14 : decode cX9_setSpeed 14 = .ok (.invokestatic 55, 3) := by decide +kernel
theorem dX9_setSpeed_17 : decode cX9_setSpeed 17 = .ok (.ifCond .ne 7, 3) := by decide +kernel
theorem dX9_setSpeed_20 : decode cX9_setSpeed 20 = .ok (.sipush (-1001), 3) := by decide +kernel
theorem dX9_setSpeed_23 : decode cX9_setSpeed 23 = .ok (.ireturn, 1) := by decide +kernel
theorem dX9_setSpeed_24 : decode cX9_setSpeed 24 = .ok (.aload_n 0, 1) := by decide +kernel
theorem dX9_setSpeed_25 : decode cX9_setSpeed 25 = .ok (.iload_n 1, 1) := by decide +kernel
theorem dX9_setSpeed_26 : decode cX9_setSpeed 26 = .ok (.invokevirtual 117, 3) := by decide +kernel
theorem dX9_setSpeed_29 : decode cX9_setSpeed 29 = .ok (.istore_n 3, 1) := by decide +kernel
theorem dX9_setSpeed_30 : decode cX9_setSpeed 30 = .ok (.iload_n 1, 1) := by decide +kernel
theorem dX9_setSpeed_31 : decode cX9_setSpeed 31 = .ok (.ifCond .le 22, 3) := by decide +kernel
theorem dX9_setSpeed_34 : decode cX9_setSpeed 34 = .ok (.iload_n 3, 1) := by decide +kernel
theorem dX9_setSpeed_35 : decode cX9_setSpeed 35 = .ok (.ifCond .ne 18, 3) := by decide +kernel
theorem dX9_setSpeed_38 : decode cX9_setSpeed 38 = .ok (.aload_n 0, 1) := by decide +kernel
theorem dX9_setSpeed_39 : decode cX9_setSpeed 39 = .ok (.getfield 7, 3) := by decide +kernel
theorem dX9_setSpeed_42 : decode cX9_setSpeed 42 = .ok (.bipush 63, 2) := by decide +kernel
theorem dX9_setSpeed_44 : decode cX9_setSpeed 44 = .ok (.iaload, 1) := by decide +kernel
theorem dX9_setSpeed_45 : decode cX9_setSpeed 45 = .ok (.iconst 5, 1) := by decide +kernel
theorem dX9_setSpeed_46 : decode cX9_setSpeed 46 = .ok (.if_icmp .ne 7, 3) := by decide +kernel
theorem dX9_setSpeed_49 : decode cX9_setSpeed 49 = .ok (.sipush (-1003), 3) := by decide +kernel
theorem dX9_setSpeed_52 : decode cX9_setSpeed 52 = .ok (.ireturn, 1) := by decide +kernel
theorem dX9_setSpeed_53 : decode cX9_setSpeed 53 = .ok (.aload_n 0, 1) := by decide +kernel
theorem dX9_setSpeed_54 : decode cX9_setSpeed 54 = .ok (.invokevirtual 101, 3) := by decide +kernel
theorem dX9_setSpeed_57 : decode cX9_setSpeed 57 = .ok (.iload_n 1, 1) := by decide +kernel
theorem dX9_setSpeed_58 : decode cX9_setSpeed 58 = .ok (.ifCond .ne 19, 3) := by decide +kernel
theorem dX9_setSpeed_61 : decode cX9_setSpeed 61 = .ok (.aload_n 0, 1) := by decide +kernel
theorem dX9_setSpeed_62 : decode cX9_setSpeed 62 = .ok (.getfield 7, 3) := by decide +kernel
theorem dX9_setSpeed_65 : decode cX9_setSpeed 65 = .ok (.bipush 62, 2) := by decide +kernel
theorem dX9_setSpeed_67 : decode cX9_setSpeed 67 = .ok (.iload_n 2, 1) := by decide +kernel
theorem dX9_setSpeed_68 : decode cX9_setSpeed 68 = .ok (.iastore, 1) := by decide +kernel
theorem dX9_setSpeed_69 : decode cX9_setSpeed 69 = .ok (.aload_n 0, 1) := by decide +kernel
theorem dX9_setSpeed_70 : decode cX9_setSpeed 70 = .ok (.getfield 7, 3) := by decide +kernel
theorem dX9_setSpeed_73 : decode cX9_setSpeed 73 = .ok (.bipush 63, 2) := by decide +kernel
theorem dX9_setSpeed_75 : decode cX9_setSpeed 75 = .ok (.iaload, 1) := by decide +kernel
theorem dX9_setSpeed_76 : decode cX9_setSpeed 76 = .ok (.ireturn, 1) := by decide +kernel
theorem dX9_setSpeed_77 : decode cX9_setSpeed 77 = .ok (.aload_n 0, 1) := by decide +kernel
theorem dX9_setSpeed_78 : decode cX9_setSpeed 78 = .ok (.iload_n 1, 1) := by decide +kernel
theorem dX9_setSpeed_79 : decode cX9_setSpeed 79 = .ok (.invokevirtual 111, 3) := by decide +kernel
theorem dX9_setSpeed_82 : decode cX9_setSpeed 82 = .ok (.istore 4, 2) := by decide +kernel
theorem dX9_setSpeed_84 : decode cX9_setSpeed 84 = .ok (.iload_n 3, 1) := by decide +kernel
theorem dX9_setSpeed_85 : decode cX9_setSpeed 85 = .ok (.ifCond .ne 64, 3) := by decide +kernel
theorem dX9_setSpeed_88 : decode cX9_setSpeed 88 = .ok (.iconst 2, 1) := by decide +kernel
theorem dX9_setSpeed_89 : decode cX9_setSpeed 89 = .ok (.aload_n 0, 1) := by decide +kernel
theorem dX9_setSpeed_90 : decode cX9_setSpeed 90 = .ok (.getfield 7, 3) := by decide +kernel
theorem dX9_setSpeed_93 : decode cX9_setSpeed 93 = .ok (.bipush 63, 2) := by decide +kernel
theorem dX9_setSpeed_95 : decode cX9_setSpeed 95 = .ok (.iaload, 1) := by decide +kernel
theorem dX9_setSpeed_96 : decode cX9_setSpeed 96 = .ok (.imul, 1) := by decide +kernel
theorem dX9_setSpeed_97 : decode cX9_setSpeed 97 = .ok (.iconst 1, 1) := by decide +kernel
theorem dX9_setSpeed_98 : decode cX9_setSpeed 98 = .ok (.isub, 1) := by decide +kernel
theorem dX9_setSpeed_99 : decode cX9_setSpeed 99 = .ok (.istore 5, 2) := by decide +kernel
theorem dX9_setSpeed_101 : decode cX9_setSpeed 101 = .ok (.iload 5, 2) := by decide +kernel
theorem dX9_setSpeed_103 : decode cX9_setSpeed 103 = .ok (.iconst 2, 1) := by decide +kernel
theorem dX9_setSpeed_104 : decode cX9_setSpeed 104 = .ok (.iload 4, 2) := by decide +kernel
theorem dX9_setSpeed_106 : decode cX9_setSpeed 106 = .ok (.imul, 1) := by decide +kernel
theorem dX9_setSpeed_107 : decode cX9_setSpeed 107 = .ok (.if_icmp .lt 31, 3) := by decide +kernel
theorem dX9_setSpeed_110 : decode cX9_setSpeed 110 = .ok (.aload_n 0, 1) := by decide +kernel
theorem dX9_setSpeed_111 : decode cX9_setSpeed 111 = .ok (.getfield 7, 3) := by decide +kernel
theorem dX9_setSpeed_114 : decode cX9_setSpeed 114 = .ok (.bipush 64, 2) := by decide +kernel
theorem dX9_setSpeed_116 : decode cX9_setSpeed 116 = .ok (.iload 5, 2) := by decide +kernel
theorem dX9_setSpeed_118 : decode cX9_setSpeed 118 = .ok (.iadd, 1) := by decide +kernel
theorem dX9_setSpeed_119 : decode cX9_setSpeed 119 = .ok (.iconst 2, 1) := by decide +kernel
theorem dX9_setSpeed_120 : decode cX9_setSpeed 120 = .ok (.iadd, 1) := by decide +kernel
theorem dX9_setSpeed_121 : decode cX9_setSpeed 121 = .ok (.aload_n 0, 1) := by decide +kernel
theorem dX9_setSpeed_122 : decode cX9_setSpeed 122 = .ok (.getfield 7, 3) := by decide +kernel
theorem dX9_setSpeed_125 : decode cX9_setSpeed 125 = .ok (.bipush 64, 2) := by decide +kernel
theorem dX9_setSpeed_127 : decode cX9_setSpeed 127 = .ok (.iload 5, 2) := by decide +kernel
theorem dX9_setSpeed_129 : decode cX9_setSpeed 129 = .ok (.iadd, 1) := by decide +kernel
theorem dX9_setSpeed_130 : decode cX9_setSpeed 130 = .ok (.iaload, 1) := by decide +kernel
theorem dX9_setSpeed_131 : decode cX9_setSpeed 131 = .ok (.iastore, 1) := by decide +kernel
theorem dX9_setSpeed_132 : decode cX9_setSpeed 132 = .ok (.iinc 5 (-1), 3) := by decide +kernel
theorem dX9_setSpeed_135 : decode cX9_setSpeed 135 = .ok (.goto (-34), 3) := by decide +kernel
theorem dX9_setSpeed_138 : decode cX9_setSpeed 138 = .ok (.aload_n 0, 1) := by decide +kernel
theorem dX9_setSpeed_139 : decode cX9_setSpeed 139 = .ok (.getfield 7, 3) := by decide +kernel
theorem dX9_setSpeed_142 : decode cX9_setSpeed 142 = .ok (.bipush 63, 2) := by decide +kernel
theorem dX9_setSpeed_144 : decode cX9_setSpeed 144 = .ok (.dup2, 1) := by decide +kernel
theorem dX9_setSpeed_145 : decode cX9_setSpeed 145 = .ok (.iaload, 1) := by decide +kernel
theorem dX9_setSpeed_146 : decode cX9_setSpeed 146 = .ok (.iconst 1, 1) := by decide +kernel
theorem dX9_setSpeed_147 : decode cX9_setSpeed 147 = .ok (.iadd, 1) := by decide +kernel
theorem dX9_setSpeed_148 : decode cX9_setSpeed 148 = .ok (.iastore, 1) := by decide +kernel
theorem dX9_setSpeed_149 : decode cX9_setSpeed 149 = .ok (.aload_n 0, 1) := by decide +kernel
theorem dX9_setSpeed_150 : decode cX9_setSpeed 150 = .ok (.getfield 7, 3) := by decide +kernel
theorem dX9_setSpeed_153 : decode cX9_setSpeed 153 = .ok (.bipush 64, 2) := by decide +kernel
theorem dX9_setSpeed_155 : decode cX9_setSpeed 155 = .ok (.iconst 2, 1) := by decide +kernel
theorem dX9_setSpeed_156 : decode cX9_setSpeed 156 = .ok (.iload 4, 2) := by decide +kernel
theorem dX9_setSpeed_158 : decode cX9_setSpeed 158 = .ok (.imul, 1) := by decide +kernel
theorem dX9_setSpeed_159 : decode cX9_setSpeed 159 = .ok (.iadd, 1) := by decide +kernel
theorem dX9_setSpeed_160 : decode cX9_setSpeed 160 = .ok (.iload_n 1, 1) := by decide +kernel
theorem dX9_setSpeed_161 : decode cX9_setSpeed 161 = .ok (.iastore, 1) := by decide +kernel
theorem dX9_setSpeed_162 : decode cX9_setSpeed 162 = .ok (.aload_n 0, 1) := by decide +kernel
theorem dX9_setSpeed_163 : decode cX9_setSpeed 163 = .ok (.getfield 7, 3) := by decide +kernel
theorem dX9_setSpeed_166 : decode cX9_setSpeed 166 = .ok (.bipush 64, 2) := by decide +kernel
theorem dX9_setSpeed_168 : decode cX9_setSpeed 168 = .ok (.iconst 2, 1) := by decide +kernel
theorem dX9_setSpeed_169 : decode cX9_setSpeed 169 = .ok (.iload 4, 2) := by decide +kernel
theorem dX9_setSpeed_171 : decode cX9_setSpeed 171 = .ok (.imul, 1) := by decide +kernel
theorem dX9_setSpeed_172 : decode cX9_setSpeed 172 = .ok (.iadd, 1) := by decide +kernel
theorem dX9_setSpeed_173 : decode cX9_setSpeed 173 = .ok (.iconst 1, 1) := by decide +kernel
theorem dX9_setSpeed_174 : decode cX9_setSpeed 174 = .ok (.iadd, 1) := by decide +kernel
theorem dX9_setSpeed_175 : decode cX9_setSpeed 175 = .ok (.iload_n 2, 1) := by decide +kernel
theorem dX9_setSpeed_176 : decode cX9_setSpeed 176 = .ok (.iastore, 1) := by decide +kernel
theorem dX9_setSpeed_177 : decode cX9_setSpeed 177 = .ok (.aload_n 0, 1) := by decide +kernel
theorem dX9_setSpeed_178 : decode cX9_setSpeed 178 = .ok (.getfield 7, 3) := by decide +kernel
theorem dX9_setSpeed_181 : decode cX9_setSpeed 181 = .ok (.bipush 63, 2) := by decide +kernel
theorem dX9_setSpeed_183 : decode cX9_setSpeed 183 = .ok (.iaload, 1) := by decide +kernel
theorem dX9_setSpeed_184 : decode cX9_setSpeed 184 = .ok (.ireturn, 1) := by decide +kernel
theorem dX9_dropChange_0 : decode cX9_dropChange 0 = .ok (.aload_n 0, 1) := by decide +kernel
theorem dX9_dropChange_1 : decode cX9_dropChange 1 = .ok (.iload_n 1, 1) := by decide +kernel
theorem dX9_dropChange_2 : decode cX9_dropChange 2 = .ok (.invokevirtual 117, 3) := by decide +kernel
theorem dX9_dropChange_5 : decode cX9_dropChange 5 = .ok (.ifCond .ne 7, 3) := by decide +kernel
theorem dX9_dropChange_8 : decode cX9_dropChange 8 = .ok (.sipush (-1001), 3) := by decide +kernel
theorem dX9_dropChange_11 : decode cX9_dropChange 11 = .ok (.ireturn, 1) := by decide +kernel
theorem dX9_dropChange_12 : decode cX9_dropChange 12 = .ok (.aload_n 0, 1) := by decide +kernel
theorem dX9_dropChange_13 : decode cX9_dropChange 13 = .ok (.invokevirtual 101, 3) := by decide +kernel
theorem dX9_dropChange_16 : decode cX9_dropChange 16 = .ok (.aload_n 0, 1) := by decide +kernel
theorem dX9_dropChange_17 : decode cX9_dropChange 17 = .ok (.iload_n 1, 1) := by decide +kernel
theorem dX9_dropChange_18 : decode cX9_dropChange 18 = .ok (.invokevirtual 111, 3) := by decide +kernel
theorem dX9_dropChange_21 : decode cX9_dropChange 21 = .ok (.istore_n 2, 1) := by decide +kernel
theorem dX9_dropChange_22 : decode cX9_dropChange 22 = .ok (.aload_n 0, 1) := by decide +kernel
theorem dX9_dropChange_23 : decode cX9_dropChange 23 = .ok (.getfield 7, 3) := by decide +kernel
theorem dX9_dropChange_26 : decode cX9_dropChange 26 = .ok (.bipush 63, 2) := by decide +kernel
theorem dX9_dropChange_28 : decode cX9_dropChange 28 = .ok (.dup2, 1) := by decide +kernel
theorem dX9_dropChange_29 : decode cX9_dropChange 29 = .ok (.iaload, 1) := by decide +kernel
theorem dX9_dropChange_30 : decode cX9_dropChange 30 = .ok (.iconst 1, 1) := by decide +kernel
theorem dX9_dropChange_31 : decode cX9_dropChange 31 = .ok (.isub, 1) := by decide +kernel
theorem dX9_dropChange_32 : decode cX9_dropChange 32 = .ok (.iastore, 1) := by decide +kernel
theorem dX9_dropChange_33 : decode cX9_dropChange 33 = .ok (.iconst 2, 1) := by decide +kernel
theorem dX9_dropChange_34 : decode cX9_dropChange 34 = .ok (.iload_n 2, 1) := by decide +kernel
theorem dX9_dropChange_35 : decode cX9_dropChange 35 = .ok (.imul, 1) := by decide +kernel
theorem dX9_dropChange_36 : decode cX9_dropChange 36 = .ok (.istore_n 3, 1) := by decide +kernel
theorem dX9_dropChange_37 : decode cX9_dropChange 37 = .ok (.iload_n 3, 1) := by decide +kernel
theorem dX9_dropChange_38 : decode cX9_dropChange 38 = .ok (.iconst 2, 1) := by decide +kernel
theorem dX9_dropChange_39 : decode cX9_dropChange 39 = .ok (.aload_n 0, 1) := by decide +kernel
theorem dX9_dropChange_40 : decode cX9_dropChange 40 = .ok (.getfield 7, 3) := by decide +kernel
theorem dX9_dropChange_43 : decode cX9_dropChange 43 = .ok (.bipush 63, 2) := by decide +kernel
theorem dX9_dropChange_45 : decode cX9_dropChange 45 = .ok (.iaload, 1) := by decide +kernel
theorem dX9_dropChange_46 : decode cX9_dropChange 46 = .ok (.imul, 1) := by decide +kernel
theorem dX9_dropChange_47 : decode cX9_dropChange 47 = .ok (.if_icmp .ge 29, 3) := by decide +kernel
theorem dX9_dropChange_50 : decode cX9_dropChange 50 = .ok (.aload_n 0, 1) := by decide +kernel
theorem dX9_dropChange_51 : decode cX9_dropChange 51 = .ok (.getfield 7, 3) := by decide +kernel
theorem dX9_dropChange_54 : decode cX9_dropChange 54 = .ok (.bipush 64, 2) := by decide +kernel
theorem dX9_dropChange_56 : decode cX9_dropChange 56 = .ok (.iload_n 3, 1) := by decide +kernel
theorem dX9_dropChange_57 : decode cX9_dropChange 57 = .ok (.iadd, 1) := by decide +kernel
theorem dX9_dropChange_58 : decode cX9_dropChange 58 = .ok (.aload_n 0, 1) := by decide +kernel
theorem dX9_dropChange_59 : decode cX9_dropChange 59 = .ok (.getfield 7, 3) := by decide +kernel
theorem dX9_dropChange_62 : decode cX9_dropChange 62 = .ok (.bipush 64, 2) := by decide +kernel
theorem dX9_dropChange_64 : decode cX9_dropChange 64 = .ok (.iload_n 3, 1) := by decide +kernel
theorem dX9_dropChange_65 : decode cX9_dropChange 65 = .ok (.iadd, 1) := by decide +kernel
theorem dX9_dropChange_66 : decode cX9_dropChange 66 = .ok (.iconst 2, 1) := by decide +kernel
theorem dX9_dropChange_67 : decode cX9_dropChange 67 = .ok (.iadd, 1) := by decide +kernel
theorem dX9_dropChange_68 : decode cX9_dropChange 68 = .ok (.iaload, 1) := by decide +kernel
theorem dX9_dropChange_69 : decode cX9_dropChange 69 = .ok (.iastore, 1) := by decide +kernel
theorem dX9_dropChange_70 : decode cX9_dropChange 70 = .ok (.iinc 3 1, 3) := by decide +kernel
theorem dX9_dropChange_73 : decode cX9_dropChange 73 = .ok (.goto (-36), 3) := by decide +kernel
theorem dX9_dropChange_76 : decode cX9_dropChange 76 = .ok (.aload_n 0, 1) := by decide +kernel
theorem dX9_dropChange_77 : decode cX9_dropChange 77 = .ok (.getfield 7, 3) := by decide +kernel
theorem dX9_dropChange_80 : decode cX9_dropChange 80 = .ok (.bipush 63, 2) := by decide +kernel
theorem dX9_dropChange_82 : decode cX9_dropChange 82 = .ok (.iaload, 1) := by decide +kernel
theorem dX9_dropChange_83 : decode cX9_dropChange 83 = .ok (.ireturn, 1) := by decide +kernel
theorem dX9_markAt_0 : decode cX9_markAt 0 = .ok (.iload_n 1, 1) := by decide +kernel
theorem dX9_markAt_1 : decode cX9_markAt 1 = .ok (.invokestatic 114, 3) := by decide +kernel
theorem dX9_markAt_4 : decode cX9_markAt 4 = .ok (.ifCond .eq 11, 3) := by decide +kernel
theorem dX9_markAt_7 : decode cX9_markAt 7 = .ok (.aload_n 0, 1) := by decide +kernel
theorem dX9_markAt_8 : decode cX9_markAt 8 = .ok (.iload_n 2, 1) := by decide +kernel
theorem dX9_markAt_9 : decode cX9_markAt 9 = .ok (.invokevirtual 104, 3) := by decide +kernel
theorem dX9_markAt_12 : decode cX9_markAt 12 = .ok (.ifCond .ne 7, 3) := by decide +kernel
theorem dX9_markAt_15 : decode cX9_markAt 15 = .ok (.sipush (-1001), 3) := by decide +kernel
theorem dX9_markAt_18 : decode cX9_markAt 18 = .ok (.ireturn, 1) := by decide +kernel
theorem dX9_markAt_19 : decode cX9_markAt 19 = .ok (.aload_n 0, 1) := by decide +kernel
theorem dX9_markAt_20 : decode cX9_markAt 20 = .ok (.invokevirtual 120, 3) := by decide +kernel
theorem dX9_markAt_23 : decode cX9_markAt 23 = .ok (.aload_n 0, 1) := by decide +kernel
theorem dX9_markAt_24 : decode cX9_markAt 24 = .ok (.iload_n 1, 1) := by decide +kernel
theorem dX9_markAt_25 : decode cX9_markAt 25 = .ok (.iload_n 2, 1) := by decide +kernel
theorem dX9_markAt_26 : decode cX9_markAt 26 = .ok (.invokevirtual 123, 3) := by decide +kernel
theorem dX9_markAt_29 : decode cX9_markAt 29 = .ok (.ireturn, 1) := by decide +kernel
theorem dX9_turn_0 : decode cX9_turn 0 = .ok (.iload_n 1, 1) := by decide +kernel
theorem dX9_turn_1 : decode cX9_turn 1 = .ok (.invokestatic 114, 3) := by decide +kernel
theorem dX9_turn_4 : decode cX9_turn 4 = .ok (.ifCond .ne 7, 3) := by decide +kernel
theorem dX9_turn_7 : decode cX9_turn 7 = .ok (.sipush (-1001), 3) := by decide +kernel
theorem dX9_turn_10 : decode cX9_turn 10 = .ok (.ireturn, 1) := by decide +kernel
theorem dX9_turn_11 : decode cX9_turn 11 = .ok (.aload_n 0, 1) := by decide +kernel
theorem dX9_turn_12 : decode cX9_turn 12 = .ok (.invokevirtual 120, 3) := by decide +kernel
theorem dX9_turn_15 : decode cX9_turn 15 = .ok (.aload_n 0, 1) := by decide +kernel
theorem dX9_turn_16 : decode cX9_turn 16 = .ok (.getfield 13, 3) := by decide +kernel
theorem dX9_turn_19 : decode cX9_turn 19 = .ok (.iload_n 1, 1) := by decide +kernel
theorem dX9_turn_20 : decode cX9_turn 20 = .ok (.iaload, 1) := by decide +kernel
theorem dX9_turn_21 : decode cX9_turn 21 = .ok (.ireturn, 1) := by decide +kernel
theorem dX9_flashes_0 : decode cX9_flashes 0 = .ok (.sipush 1000, 3) := by decide +kernel
theorem dX9_flashes_3 : decode cX9_flashes 3 = .ok (.aload_n 0, 1) := by decide +kernel
theorem dX9_flashes_4 : decode cX9_flashes 4 = .ok (.getfield 7, 3) := by decide +kernel
theorem dX9_flashes_7 : decode cX9_flashes 7 = .ok (.bipush 74, 2) := by decide +kernel
theorem dX9_flashes_9 : decode cX9_flashes 9 = .ok (.iaload, 1) := by decide +kernel
theorem dX9_flashes_10 : decode cX9_flashes 10 = .ok (.isub, 1) := by decide +kernel
theorem dX9_flashes_11 : decode cX9_flashes 11 = .ok (.aload_n 0, 1) := by decide +kernel
theorem dX9_flashes_12 : decode cX9_flashes 12 = .ok (.getfield 7, 3) := by decide +kernel
theorem dX9_flashes_15 : decode cX9_flashes 15 = .ok (.bipush 75, 2) := by decide +kernel
theorem dX9_flashes_17 : decode cX9_flashes 17 = .ok (.iaload, 1) := by decide +kernel
theorem dX9_flashes_18 : decode cX9_flashes 18 = .ok (.idiv, 1) := by decide +kernel
theorem dX9_flashes_19 : decode cX9_flashes 19 = .ok (.iconst 1, 1) := by decide +kernel
theorem dX9_flashes_20 : decode cX9_flashes 20 = .ok (.iadd, 1) := by decide +kernel
theorem dX9_flashes_21 : decode cX9_flashes 21 = .ok (.ireturn, 1) := by decide +kernel
theorem dX9_tickOfFlash_0 : decode cX9_tickOfFlash 0 = .ok (.aload_n 0, 1) := by decide +kernel
theorem dX9_tickOfFlash_1 : decode cX9_tickOfFlash 1 = .ok (.getfield 7, 3) := by decide +kernel
theorem dX9_tickOfFlash_4 : decode cX9_tickOfFlash 4 = .ok (.bipush 74, 2) := by decide +kernel
theorem dX9_tickOfFlash_6 : decode cX9_tickOfFlash 6 = .ok (.iaload, 1) := by decide +kernel
theorem dX9_tickOfFlash_7 : decode cX9_tickOfFlash 7 = .ok (.iload_n 1, 1) := by decide +kernel
theorem dX9_tickOfFlash_8 : decode cX9_tickOfFlash 8 = .ok (.aload_n 0, 1) := by decide +kernel
theorem dX9_tickOfFlash_9 : decode cX9_tickOfFlash 9 = .ok (.getfield 7, 3) := by decide +kernel
theorem dX9_tickOfFlash_12 : decode cX9_tickOfFlash 12 = .ok (.bipush 75, 2) := by decide +kernel
theorem dX9_tickOfFlash_14 : decode cX9_tickOfFlash 14 = .ok (.iaload, 1) := by decide +kernel
theorem dX9_tickOfFlash_15 : decode cX9_tickOfFlash 15 = .ok (.imul, 1) := by decide +kernel
theorem dX9_tickOfFlash_16 : decode cX9_tickOfFlash 16 = .ok (.iadd, 1) := by decide +kernel
theorem dX9_tickOfFlash_17 : decode cX9_tickOfFlash 17 = .ok (.ireturn, 1) := by decide +kernel
theorem dX9_isFlash_0 : decode cX9_isFlash 0 = .ok (.iload_n 1, 1) := by decide +kernel
theorem dX9_isFlash_1 : decode cX9_isFlash 1 = .ok (.iconst 0, 1) := by decide +kernel
theorem dX9_isFlash_2 : decode cX9_isFlash 2 = .ok (.aload_n 0, 1) := by decide +kernel
theorem dX9_isFlash_3 : decode cX9_isFlash 3 = .ok (.invokevirtual 126, 3) := by decide +kernel
theorem dX9_isFlash_6 : decode cX9_isFlash 6 = .ok (.iconst 1, 1) := by decide +kernel
theorem dX9_isFlash_7 : decode cX9_isFlash 7 = .ok (.isub, 1) := by decide +kernel
theorem dX9_isFlash_8 : decode cX9_isFlash 8 = .ok (.invokestatic 55, 3) := by decide +kernel
theorem dX9_isFlash_11 : decode cX9_isFlash 11 = .ok (.ireturn, 1) := by decide +kernel
theorem dX9_setFlash_0 : decode cX9_setFlash 0 = .ok (.iload_n 1, 1) := by decide +kernel
theorem dX9_setFlash_1 : decode cX9_setFlash 1 = .ok (.invokestatic 114, 3) := by decide +kernel
theorem dX9_setFlash_4 : decode cX9_setFlash 4 = .ok (.ifCond .eq 14, 3) := by decide +kernel
theorem dX9_setFlash_7 : decode cX9_setFlash 7 = .ok (.iload_n 2, 1) := by decide +kernel
theorem dX9_setFlash_8 : decode cX9_setFlash 8 = .ok (.iconst 1, 1) := by decide +kernel
theorem dX9_setFlash_9 : decode cX9_setFlash 9 = .ok (.sipush 500, 3) := by decide +kernel
theorem dX9_setFlash_12 : decode cX9_setFlash 12 = .ok (.invokestatic 55, 3) := by decide +kernel
theorem dX9_setFlash_15 : decode cX9_setFlash 15 = .ok (.ifCond .ne 7, 3) := by decide +kernel
theorem dX9_setFlash_18 : decode cX9_setFlash 18 = .ok (.sipush (-1001), 3) := by decide +kernel
theorem dX9_setFlash_21 : decode cX9_setFlash 21 = .ok (.ireturn, 1) := by decide +kernel
theorem dX9_setFlash_22 : decode cX9_setFlash 22 = .ok (.aload_n 0, 1) := by decide +kernel
theorem dX9_setFlash_23 : decode cX9_setFlash 23 = .ok (.invokevirtual 101, 3) := by decide +kernel
theorem dX9_setFlash_26 : decode cX9_setFlash 26 = .ok (.aload_n 0, 1) := by decide +kernel
theorem dX9_setFlash_27 : decode cX9_setFlash 27 = .ok (.getfield 7, 3) := by decide +kernel
theorem dX9_setFlash_30 : decode cX9_setFlash 30 = .ok (.bipush 74, 2) := by decide +kernel
theorem dX9_setFlash_32 : decode cX9_setFlash 32 = .ok (.iload_n 1, 1) := by decide +kernel
theorem dX9_setFlash_33 : decode cX9_setFlash 33 = .ok (.iastore, 1) := by decide +kernel
theorem dX9_setFlash_34 : decode cX9_setFlash 34 = .ok (.aload_n 0, 1) := by decide +kernel
theorem dX9_setFlash_35 : decode cX9_setFlash 35 = .ok (.getfield 7, 3) := by decide +kernel
theorem dX9_setFlash_38 : decode cX9_setFlash 38 = .ok (.bipush 75, 2) := by decide +kernel
theorem dX9_setFlash_40 : decode cX9_setFlash 40 = .ok (.iload_n 2, 1) := by decide +kernel
theorem dX9_setFlash_41 : decode cX9_setFlash 41 = .ok (.iastore, 1) := by decide +kernel
theorem dX9_setFlash_42 : decode cX9_setFlash 42 = .ok (.aload_n 0, 1) := by decide +kernel
theorem dX9_setFlash_43 : decode cX9_setFlash 43 = .ok (.invokevirtual 126, 3) := by decide +kernel
theorem dX9_setFlash_46 : decode cX9_setFlash 46 = .ok (.ireturn, 1) := by decide +kernel
theorem dX9_earliest_0 : decode cX9_earliest 0 = .ok (.iconst 0, 1) := by decide +kernel
theorem dX9_earliest_1 : decode cX9_earliest 1 = .ok (.istore_n 2, 1) := by decide +kernel
theorem dX9_earliest_2 : decode cX9_earliest 2 = .ok (.aload_n 0, 1) := by decide +kernel
theorem dX9_earliest_3 : decode cX9_earliest 3 = .ok (.aload_n 0, 1) := by decide +kernel
theorem dX9_earliest_4 : decode cX9_earliest 4 = .ok (.iload_n 2, 1) := by decide +kernel
theorem dX9_earliest_5 : decode cX9_earliest 5 = .ok (.invokevirtual 129, 3) := by decide +kernel
theorem dX9_earliest_8 : decode cX9_earliest 8 = .ok (.aload_n 0, 1) := by decide +kernel
theorem dX9_earliest_9 : decode cX9_earliest 9 = .ok (.iload_n 1, 1) := by decide +kernel
theorem dX9_earliest_10 : decode cX9_earliest 10 = .ok (.invokevirtual 129, 3) := by decide +kernel
theorem dX9_earliest_13 : decode cX9_earliest 13 = .ok (.invokevirtual 132, 3) := by decide +kernel
theorem dX9_earliest_16 : decode cX9_earliest 16 = .ok (.ifCond .ne 9, 3) := by decide +kernel
theorem dX9_earliest_19 : decode cX9_earliest 19 = .ok (.iinc 2 1, 3) := by decide +kernel
theorem dX9_earliest_22 : decode cX9_earliest 22 = .ok (.goto (-20), 3) := by decide +kernel
theorem dX9_earliest_25 : decode cX9_earliest 25 = .ok (.iload_n 2, 1) := by decide +kernel
theorem dX9_earliest_26 : decode cX9_earliest 26 = .ok (.ireturn, 1) := by decide +kernel
theorem dX9_stepBehind_0 : decode cX9_stepBehind 0 = .ok (.iload_n 1, 1) := by decide +kernel
theorem dX9_stepBehind_1 : decode cX9_stepBehind 1 = .ok (.aload_n 0, 1) := by decide +kernel
theorem dX9_stepBehind_2 : decode cX9_stepBehind 2 = .ok (.invokevirtual 126, 3) := by decide +kernel
theorem dX9_stepBehind_5 : decode cX9_stepBehind 5 = .ok (.iconst 1, 1) := by decide +kernel
theorem dX9_stepBehind_6 : decode cX9_stepBehind 6 = .ok (.isub, 1) := by decide +kernel
theorem dX9_stepBehind_7 : decode cX9_stepBehind 7 = .ok (.if_icmp .ne 9, 3) := by decide +kernel
theorem dX9_stepBehind_10 : decode cX9_stepBehind 10 = .ok (.sipush (-1004), 3) := by decide +kernel
theorem dX9_stepBehind_13 : decode cX9_stepBehind 13 = .ok (.goto 19, 3) := by decide +kernel
theorem dX9_stepBehind_16 : decode cX9_stepBehind 16 = .ok (.aload_n 0, 1) := by decide +kernel
theorem dX9_stepBehind_17 : decode cX9_stepBehind 17 = .ok (.aload_n 0, 1) := by decide +kernel
theorem dX9_stepBehind_18 : decode cX9_stepBehind 18 = .ok (.iload_n 1, 1) := by decide +kernel
theorem dX9_stepBehind_19 : decode cX9_stepBehind 19 = .ok (.invokevirtual 129, 3) := by decide +kernel
theorem dX9_stepBehind_22 : decode cX9_stepBehind 22 = .ok (.aload_n 0, 1) := by decide +kernel
theorem dX9_stepBehind_23 : decode cX9_stepBehind 23 = .ok (.iload_n 1, 1) := by decide +kernel
theorem dX9_stepBehind_24 : decode cX9_stepBehind 24 = .ok (.iconst 1, 1) := by decide +kernel
theorem dX9_stepBehind_25 : decode cX9_stepBehind 25 = .ok (.iadd, 1) := by decide +kernel
theorem dX9_stepBehind_26 : decode cX9_stepBehind 26 = .ok (.invokevirtual 129, 3) := by decide +kernel
theorem dX9_stepBehind_29 : decode cX9_stepBehind 29 = .ok (.invokevirtual 59, 3) := by decide +kernel
theorem dX9_stepBehind_32 : decode cX9_stepBehind 32 = .ok (.ireturn, 1) := by decide +kernel
theorem dX9_flash_0 : decode cX9_flash 0 = .ok (.aload_n 0, 1) := by decide +kernel
theorem dX9_flash_1 : decode cX9_flash 1 = .ok (.iload_n 1, 1) := by decide +kernel
theorem dX9_flash_2 : decode cX9_flash 2 = .ok (.invokevirtual 135, 3) := by decide +kernel
theorem dX9_flash_5 : decode cX9_flash 5 = .ok (.ifCond .eq 12, 3) := by decide +kernel
theorem dX9_flash_8 : decode cX9_flash 8 = .ok (.iload_n 2, 1) := by decide +kernel
theorem dX9_flash_9 : decode cX9_flash 9 = .ok (.iconst 0, 1) := by decide +kernel
theorem dX9_flash_10 : decode cX9_flash 10 = .ok (.iconst 3, 1) := by decide +kernel
theorem dX9_flash_11 : decode cX9_flash 11 = .ok (.invokestatic 55, 3) := by decide +kernel
theorem dX9_flash_14 : decode cX9_flash 14 = .ok (.ifCond .ne 7, 3) := by decide +kernel
theorem dX9_flash_17 : decode cX9_flash 17 = .ok (.sipush (-1001), 3) := by decide +kernel
theorem dX9_flash_20 : decode cX9_flash 20 = .ok (.ireturn, 1) := by decide +kernel
theorem dX9_flash_21 : decode cX9_flash 21 = .ok (.aload_n 0, 1) := by decide +kernel
theorem dX9_flash_22 : decode cX9_flash 22 = .ok (.invokevirtual 120, 3) := by decide +kernel
theorem dX9_flash_25 : decode cX9_flash 25 = .ok (.iload_n 2, 1) := by decide +kernel
theorem dX9_flash_26 : decode cX9_flash 26 = .ok (.tableswitch 49 0 2 #[26, 32, 43], 26) := by decide +kernel
theorem dX9_flash_52 : decode cX9_flash 52 = .ok (.aload_n 0, 1) := by decide +kernel
theorem dX9_flash_53 : decode cX9_flash 53 = .ok (.iload_n 1, 1) := by decide +kernel
theorem dX9_flash_54 : decode cX9_flash 54 = .ok (.invokevirtual 129, 3) := by decide +kernel
theorem dX9_flash_57 : decode cX9_flash 57 = .ok (.ireturn, 1) := by decide +kernel
theorem dX9_flash_58 : decode cX9_flash 58 = .ok (.aload_n 0, 1) := by decide +kernel
theorem dX9_flash_59 : decode cX9_flash 59 = .ok (.getfield 13, 3) := by decide +kernel
theorem dX9_flash_62 : decode cX9_flash 62 = .ok (.aload_n 0, 1) := by decide +kernel
theorem dX9_flash_63 : decode cX9_flash 63 = .ok (.iload_n 1, 1) := by decide +kernel
theorem dX9_flash_64 : decode cX9_flash 64 = .ok (.invokevirtual 129, 3) := by decide +kernel
theorem dX9_flash_67 : decode cX9_flash 67 = .ok (.iaload, 1) := by decide +kernel
theorem dX9_flash_68 : decode cX9_flash 68 = .ok (.ireturn, 1) := by decide +kernel
theorem dX9_flash_69 : decode cX9_flash 69 = .ok (.aload_n 0, 1) := by decide +kernel
theorem dX9_flash_70 : decode cX9_flash 70 = .ok (.iload_n 1, 1) := by decide +kernel
theorem dX9_flash_71 : decode cX9_flash 71 = .ok (.invokevirtual 138, 3) := by decide +kernel
theorem dX9_flash_74 : decode cX9_flash 74 = .ok (.ireturn, 1) := by decide +kernel
theorem dX9_flash_75 : decode cX9_flash 75 = .ok (.aload_n 0, 1) := by decide +kernel
theorem dX9_flash_76 : decode cX9_flash 76 = .ok (.iload_n 1, 1) := by decide +kernel
theorem dX9_flash_77 : decode cX9_flash 77 = .ok (.invokevirtual 141, 3) := by decide +kernel
theorem dX9_flash_80 : decode cX9_flash 80 = .ok (.ireturn, 1) := by decide +kernel
theorem dX9_step_0 : decode cX9_step 0 = .ok (.iload_n 1, 1) := by decide +kernel
theorem dX9_step_1 : decode cX9_step 1 = .ok (.invokestatic 114, 3) := by decide +kernel
theorem dX9_step_4 : decode cX9_step 4 = .ok (.ifCond .eq 10, 3) := by decide +kernel
theorem dX9_step_7 : decode cX9_step 7 = .ok (.iload_n 2, 1) := by decide +kernel
theorem dX9_step_8 : decode cX9_step 8 = .ok (.invokestatic 114, 3) := by decide +kernel
theorem dX9_step_11 : decode cX9_step 11 = .ok (.ifCond .ne 7, 3) := by decide +kernel
theorem dX9_step_14 : decode cX9_step 14 = .ok (.sipush (-1001), 3) := by decide +kernel
theorem dX9_step_17 : decode cX9_step 17 = .ok (.ireturn, 1) := by decide +kernel
theorem dX9_step_18 : decode cX9_step 18 = .ok (.aload_n 0, 1) := by decide +kernel
theorem dX9_step_19 : decode cX9_step 19 = .ok (.invokevirtual 120, 3) := by decide +kernel
theorem dX9_step_22 : decode cX9_step 22 = .ok (.aload_n 0, 1) := by decide +kernel
theorem dX9_step_23 : decode cX9_step 23 = .ok (.iload_n 1, 1) := by decide +kernel
theorem dX9_step_24 : decode cX9_step 24 = .ok (.iload_n 2, 1) := by decide +kernel
theorem dX9_step_25 : decode cX9_step 25 = .ok (.invokevirtual 59, 3) := by decide +kernel
theorem dX9_step_28 : decode cX9_step 28 = .ok (.ireturn, 1) := by decide +kernel
theorem dX9_pictures_0 : decode cX9_pictures 0 = .ok (.aload_n 0, 1) := by decide +kernel
theorem dX9_pictures_1 : decode cX9_pictures 1 = .ok (.invokevirtual 41, 3) := by decide +kernel
theorem dX9_pictures_4 : decode cX9_pictures 4 = .ok (.istore_n 1, 1) := by decide +kernel
theorem dX9_pictures_5 : decode cX9_pictures 5 = .ok (.iconst 0, 1) := by decide +kernel
theorem dX9_pictures_6 : decode cX9_pictures 6 = .ok (.istore_n 2, 1) := by decide +kernel
theorem dX9_pictures_7 : decode cX9_pictures 7 = .ok (.iconst 0, 1) := by decide +kernel
theorem dX9_pictures_8 : decode cX9_pictures 8 = .ok (.istore_n 3, 1) := by decide +kernel
theorem dX9_pictures_9 : decode cX9_pictures 9 = .ok (.iload_n 3, 1) := by decide +kernel
theorem dX9_pictures_10 : decode cX9_pictures 10 = .ok (.bipush 60, 2) := by decide +kernel
theorem dX9_pictures_12 : decode cX9_pictures 12 = .ok (.if_icmp .ge 16, 3) := by decide +kernel
theorem dX9_pictures_15 : decode cX9_pictures 15 = .ok (.aload_n 0, 1) := by decide +kernel
theorem dX9_pictures_16 : decode cX9_pictures 16 = .ok (.getfield 19, 3) := by decide +kernel
theorem dX9_pictures_19 : decode cX9_pictures 19 = .ok (.iload_n 3, 1) := by decide +kernel
theorem dX9_pictures_20 : decode cX9_pictures 20 = .ok (.iconst 0, 1) := by decide +kernel
theorem dX9_pictures_21 : decode cX9_pictures 21 = .ok (.bastore, 1) := by decide +kernel
theorem dX9_pictures_22 : decode cX9_pictures 22 = .ok (.iinc 3 1, 3) := by decide +kernel
theorem dX9_pictures_25 : decode cX9_pictures 25 = .ok (.goto (-16), 3) := by decide +kernel
theorem dX9_pictures_28 : decode cX9_pictures 28 = .ok (.iconst 0, 1) := by decide +kernel
theorem dX9_pictures_29 : decode cX9_pictures 29 = .ok (.istore_n 3, 1) := by decide +kernel
theorem dX9_pictures_30 : decode cX9_pictures 30 = .ok (.iload_n 3, 1) := by decide +kernel
theorem dX9_pictures_31 : decode cX9_pictures 31 = .ok (.aload_n 0, 1) := by decide +kernel
theorem dX9_pictures_32 : decode cX9_pictures 32 = .ok (.invokevirtual 126, 3) := by decide +kernel
theorem dX9_pictures_35 : decode cX9_pictures 35 = .ok (.if_icmp .ge 49, 3) := by decide +kernel
theorem dX9_pictures_38 : decode cX9_pictures 38 = .ok (.aload_n 0, 1) := by decide +kernel
theorem dX9_pictures_39 : decode cX9_pictures 39 = .ok (.getfield 13, 3) := by decide +kernel
theorem dX9_pictures_42 : decode cX9_pictures 42 = .ok (.aload_n 0, 1) := by decide +kernel
theorem dX9_pictures_43 : decode cX9_pictures 43 = .ok (.iload_n 3, 1) := by decide +kernel
theorem dX9_pictures_44 : decode cX9_pictures 44 = .ok (.invokevirtual 129, 3) := by decide +kernel
theorem dX9_pictures_47 : decode cX9_pictures 47 = .ok (.iaload, 1) := by decide +kernel
theorem dX9_pictures_48 : decode cX9_pictures 48 = .ok (.iload_n 1, 1) := by decide +kernel
theorem dX9_pictures_49 : decode cX9_pictures 49 = .ok (.irem, 1) := by decide +kernel
theorem dX9_pictures_50 : decode cX9_pictures 50 = .ok (.istore 4, 2) := by decide +kernel
theorem dX9_pictures_52 : decode cX9_pictures 52 = .ok (.iload_n 2, 1) := by decide +kernel
theorem dX9_pictures_53 : decode cX9_pictures 53 = .ok (.aload_n 0, 1) := by decide +kernel
theorem dX9_pictures_54 : decode cX9_pictures 54 = .ok (.getfield 19, 3) := by decide +kernel
theorem dX9_pictures_57 : decode cX9_pictures 57 = .ok (.iload 4, 2) := by decide +kernel
theorem dX9_pictures_59 : decode cX9_pictures 59 = .ok (.baload, 1) := by decide +kernel
theorem dX9_pictures_60 : decode cX9_pictures 60 = .ok (.ifCond .eq 7, 3) := by decide +kernel
theorem dX9_pictures_63 : decode cX9_pictures 63 = .ok (.iconst 0, 1) := by decide +kernel
theorem dX9_pictures_64 : decode cX9_pictures 64 = .ok (.goto 4, 3) := by decide +kernel
theorem dX9_pictures_67 : decode cX9_pictures 67 = .ok (.iconst 1, 1) := by decide +kernel
theorem dX9_pictures_68 : decode cX9_pictures 68 = .ok (.iadd, 1) := by decide +kernel
theorem dX9_pictures_69 : decode cX9_pictures 69 = .ok (.istore_n 2, 1) := by decide +kernel
theorem dX9_pictures_70 : decode cX9_pictures 70 = .ok (.aload_n 0, 1) := by decide +kernel
theorem dX9_pictures_71 : decode cX9_pictures 71 = .ok (.getfield 19, 3) := by decide +kernel
theorem dX9_pictures_74 : decode cX9_pictures 74 = .ok (.iload 4, 2) := by decide +kernel
theorem dX9_pictures_76 : decode cX9_pictures 76 = .ok (.iconst 1, 1) := by decide +kernel
theorem dX9_pictures_77 : decode cX9_pictures 77 = .ok (.bastore, 1) := by decide +kernel
theorem dX9_pictures_78 : decode cX9_pictures 78 = .ok (.iinc 3 1, 3) := by decide +kernel
theorem dX9_pictures_81 : decode cX9_pictures 81 = .ok (.goto (-51), 3) := by decide +kernel
theorem dX9_pictures_84 : decode cX9_pictures 84 = .ok (.iload_n 2, 1) := by decide +kernel
theorem dX9_pictures_85 : decode cX9_pictures 85 = .ok (.ireturn, 1) := by decide +kernel
theorem dX9_seems_0 : decode cX9_seems 0 = .ok (.iload_n 1, 1) := by decide +kernel
theorem dX9_seems_1 : decode cX9_seems 1 = .ok (.iconst 0, 1) := by decide +kernel
theorem dX9_seems_2 : decode cX9_seems 2 = .ok (.iconst 3, 1) := by decide +kernel
theorem dX9_seems_3 : decode cX9_seems 3 = .ok (.invokestatic 55, 3) := by decide +kernel
theorem dX9_seems_6 : decode cX9_seems 6 = .ok (.ifCond .ne 7, 3) := by decide +kernel
theorem dX9_seems_9 : decode cX9_seems 9 = .ok (.sipush (-1001), 3) := by decide +kernel
theorem dX9_seems_12 : decode cX9_seems 12 = .ok (.ireturn, 1) := by decide +kernel
theorem dX9_seems_13 : decode cX9_seems 13 = .ok (.aload_n 0, 1) := by decide +kernel
theorem dX9_seems_14 : decode cX9_seems 14 = .ok (.invokevirtual 120, 3) := by decide +kernel
theorem dX9_seems_17 : decode cX9_seems 17 = .ok (.iload_n 1, 1) := by decide +kernel
theorem dX9_seems_18 : decode cX9_seems 18 = .ok (.iconst 3, 1) := by decide +kernel
theorem dX9_seems_19 : decode cX9_seems 19 = .ok (.if_icmp .ne 8, 3) := by decide +kernel
theorem dX9_seems_22 : decode cX9_seems 22 = .ok (.aload_n 0, 1) := by decide +kernel
theorem dX9_seems_23 : decode cX9_seems 23 = .ok (.invokevirtual 144, 3) := by decide +kernel
theorem dX9_seems_26 : decode cX9_seems 26 = .ok (.ireturn, 1) := by decide +kernel
theorem dX9_seems_27 : decode cX9_seems 27 = .ok (.iconst 0, 1) := by decide +kernel
theorem dX9_seems_28 : decode cX9_seems 28 = .ok (.istore_n 2, 1) := by decide +kernel
theorem dX9_seems_29 : decode cX9_seems 29 = .ok (.iconst 0, 1) := by decide +kernel
theorem dX9_seems_30 : decode cX9_seems 30 = .ok (.istore_n 3, 1) := by decide +kernel
theorem dX9_seems_31 : decode cX9_seems 31 = .ok (.iload_n 3, 1) := by decide +kernel
theorem dX9_seems_32 : decode cX9_seems 32 = .ok (.iconst 1, 1) := by decide +kernel
theorem dX9_seems_33 : decode cX9_seems 33 = .ok (.iadd, 1) := by decide +kernel
theorem dX9_seems_34 : decode cX9_seems 34 = .ok (.aload_n 0, 1) := by decide +kernel
theorem dX9_seems_35 : decode cX9_seems 35 = .ok (.invokevirtual 126, 3) := by decide +kernel
theorem dX9_seems_38 : decode cX9_seems 38 = .ok (.if_icmp .ge 54, 3) := by decide +kernel
theorem dX9_seems_41 : decode cX9_seems 41 = .ok (.aload_n 0, 1) := by decide +kernel
theorem dX9_seems_42 : decode cX9_seems 42 = .ok (.iload_n 3, 1) := by decide +kernel
theorem dX9_seems_43 : decode cX9_seems 43 = .ok (.invokevirtual 138, 3) := by decide +kernel
theorem dX9_seems_46 : decode cX9_seems 46 = .ok (.istore 4, 2) := by decide +kernel
theorem dX9_seems_48 : decode cX9_seems 48 = .ok (.iload_n 2, 1) := by decide +kernel
theorem dX9_seems_49 : decode cX9_seems 49 = .ok (.iload_n 1, 1) := by decide +kernel
theorem dX9_seems_50 : decode cX9_seems 50 = .ok (.ifCond .ne 11, 3) := by decide +kernel
theorem dX9_seems_53 : decode cX9_seems 53 = .ok (.iload 4, 2) := by decide +kernel
theorem dX9_seems_55 : decode cX9_seems 55 = .ok (.ifCond .ne 28, 3) := by decide +kernel
theorem dX9_seems_58 : decode cX9_seems 58 = .ok (.goto 21, 3) := by decide +kernel
theorem dX9_seems_61 : decode cX9_seems 61 = .ok (.iload_n 1, 1) := by decide +kernel
theorem dX9_seems_62 : decode cX9_seems 62 = .ok (.iconst 1, 1) := by decide +kernel
theorem dX9_seems_63 : decode cX9_seems 63 = .ok (.if_icmp .ne 11, 3) := by decide +kernel
theorem dX9_seems_66 : decode cX9_seems 66 = .ok (.iload 4, 2) := by decide +kernel
theorem dX9_seems_68 : decode cX9_seems 68 = .ok (.ifCond .le 15, 3) := by decide +kernel
theorem dX9_seems_71 : decode cX9_seems 71 = .ok (.goto 8, 3) := by decide +kernel
theorem dX9_seems_74 : decode cX9_seems 74 = .ok (.iload 4, 2) := by decide +kernel
theorem dX9_seems_76 : decode cX9_seems 76 = .ok (.ifCond .ge 7, 3) := by decide +kernel
theorem dX9_seems_79 : decode cX9_seems 79 = .ok (.iconst 1, 1) := by decide +kernel
theorem dX9_seems_80 : decode cX9_seems 80 = .ok (.goto 4, 3) := by decide +kernel
theorem dX9_seems_83 : decode cX9_seems 83 = .ok (.iconst 0, 1) := by decide +kernel
theorem dX9_seems_84 : decode cX9_seems 84 = .ok (.iadd, 1) := by decide +kernel
theorem dX9_seems_85 : decode cX9_seems 85 = .ok (.istore_n 2, 1) := by decide +kernel
theorem dX9_seems_86 : decode cX9_seems 86 = .ok (.iinc 3 1, 3) := by decide +kernel
theorem dX9_seems_89 : decode cX9_seems 89 = .ok (.goto (-58), 3) := by decide +kernel
theorem dX9_seems_92 : decode cX9_seems 92 = .ok (.iload_n 2, 1) := by decide +kernel
theorem dX9_seems_93 : decode cX9_seems 93 = .ok (.ireturn, 1) := by decide +kernel
theorem dX9_stillPeriod_0 : decode cX9_stillPeriod 0 = .ok (.iload_n 1, 1) := by decide +kernel
theorem dX9_stillPeriod_1 : decode cX9_stillPeriod 1 = .ok (.iconst 1, 1) := by decide +kernel
theorem dX9_stillPeriod_2 : decode cX9_stillPeriod 2 = .ok (.sipush 500, 3) := by decide +kernel
theorem dX9_stillPeriod_5 : decode cX9_stillPeriod 5 = .ok (.invokestatic 55, 3) := by decide +kernel
theorem dX9_stillPeriod_8 : decode cX9_stillPeriod 8 = .ok (.ifCond .eq 14, 3) := by decide +kernel
theorem dX9_stillPeriod_11 : decode cX9_stillPeriod 11 = .ok (.iload_n 2, 1) := by decide +kernel
theorem dX9_stillPeriod_12 : decode cX9_stillPeriod 12 = .ok (.iload_n 1, 1) := by decide +kernel
theorem dX9_stillPeriod_13 : decode cX9_stillPeriod 13 = .ok (.sipush 500, 3) := by decide +kernel
theorem dX9_stillPeriod_16 : decode cX9_stillPeriod 16 = .ok (.invokestatic 55, 3) := by decide +kernel
theorem dX9_stillPeriod_19 : decode cX9_stillPeriod 19 = .ok (.ifCond .ne 7, 3) := by decide +kernel
theorem dX9_stillPeriod_22 : decode cX9_stillPeriod 22 = .ok (.sipush (-1001), 3) := by decide +kernel
theorem dX9_stillPeriod_25 : decode cX9_stillPeriod 25 = .ok (.ireturn, 1) := by decide +kernel
theorem dX9_stillPeriod_26 : decode cX9_stillPeriod 26 = .ok (.aload_n 0, 1) := by decide +kernel
theorem dX9_stillPeriod_27 : decode cX9_stillPeriod 27 = .ok (.invokevirtual 41, 3) := by decide +kernel
theorem dX9_stillPeriod_30 : decode cX9_stillPeriod 30 = .ok (.istore_n 3, 1) := by decide +kernel
theorem dX9_stillPeriod_31 : decode cX9_stillPeriod 31 = .ok (.iload_n 1, 1) := by decide +kernel
theorem dX9_stillPeriod_32 : decode cX9_stillPeriod 32 = .ok (.istore 4, 2) := by decide +kernel
theorem dX9_stillPeriod_34 : decode cX9_stillPeriod 34 = .ok (.iload 4, 2) := by decide +kernel
theorem dX9_stillPeriod_36 : decode cX9_stillPeriod 36 = .ok (.iload_n 2, 1) := by decide +kernel
theorem dX9_stillPeriod_37 : decode cX9_stillPeriod 37 = .ok (.if_icmp .gt 27, 3) := by decide +kernel
theorem dX9_stillPeriod_40 : decode cX9_stillPeriod 40 = .ok (.aload_n 0, 1) := by decide +kernel
theorem dX9_stillPeriod_41 : decode cX9_stillPeriod 41 = .ok (.getfield 7, 3) := by decide +kernel
theorem dX9_stillPeriod_44 : decode cX9_stillPeriod 44 = .ok (.bipush 62, 2) := by decide +kernel
theorem dX9_stillPeriod_46 : decode cX9_stillPeriod 46 = .ok (.iaload, 1) := by decide +kernel
theorem dX9_stillPeriod_47 : decode cX9_stillPeriod 47 = .ok (.iload 4, 2) := by decide +kernel
theorem dX9_stillPeriod_49 : decode cX9_stillPeriod 49 = .ok (.imul, 1) := by decide +kernel
theorem dX9_stillPeriod_50 : decode cX9_stillPeriod 50 = .ok (.iload_n 3, 1) := by decide +kernel
theorem dX9_stillPeriod_51 : decode cX9_stillPeriod 51 = .ok (.irem, 1) := by decide +kernel
theorem dX9_stillPeriod_52 : decode cX9_stillPeriod 52 = .ok (.ifCond .ne 6, 3) := by decide +kernel
theorem dX9_stillPeriod_55 : decode cX9_stillPeriod 55 = .ok (.iload 4, 2) := by decide +kernel
theorem dX9_stillPeriod_57 : decode cX9_stillPeriod 57 = .ok (.ireturn, 1) := by decide +kernel
theorem dX9_stillPeriod_58 : decode cX9_stillPeriod 58 = .ok (.iinc 4 1, 3) := by decide +kernel
theorem dX9_stillPeriod_61 : decode cX9_stillPeriod 61 = .ok (.goto (-27), 3) := by decide +kernel
theorem dX9_stillPeriod_64 : decode cX9_stillPeriod 64 = .ok (.sipush (-1004), 3) := by decide +kernel
theorem dX9_stillPeriod_67 : decode cX9_stillPeriod 67 = .ok (.ireturn, 1) := by decide +kernel
theorem dX9_isReading_0 : decode cX9_isReading 0 = .ok (.iload_n 1, 1) := by decide +kernel
theorem dX9_isReading_1 : decode cX9_isReading 1 = .ok (.iconst 0, 1) := by decide +kernel
theorem dX9_isReading_2 : decode cX9_isReading 2 = .ok (.aload_n 0, 1) := by decide +kernel
theorem dX9_isReading_3 : decode cX9_isReading 3 = .ok (.getfield 7, 3) := by decide +kernel
theorem dX9_isReading_6 : decode cX9_isReading 6 = .ok (.bipush 76, 2) := by decide +kernel
theorem dX9_isReading_8 : decode cX9_isReading 8 = .ok (.iaload, 1) := by decide +kernel
theorem dX9_isReading_9 : decode cX9_isReading 9 = .ok (.iconst 1, 1) := by decide +kernel
theorem dX9_isReading_10 : decode cX9_isReading 10 = .ok (.isub, 1) := by decide +kernel
theorem dX9_isReading_11 : decode cX9_isReading 11 = .ok (.invokestatic 55, 3) := by decide +kernel
theorem dX9_isReading_14 : decode cX9_isReading 14 = .ok (.ireturn, 1) := by decide +kernel
theorem dX9_adds_0 : decode cX9_adds 0 = .ok (.aload_n 0, 1) := by decide +kernel
theorem dX9_adds_1 : decode cX9_adds 1 = .ok (.invokevirtual 101, 3) := by decide +kernel
theorem dX9_adds_4 : decode cX9_adds 4 = .ok (.aload_n 0, 1) := by decide +kernel
theorem dX9_adds_5 : decode cX9_adds 5 = .ok (.getfield 7, 3) := by decide +kernel
theorem dX9_adds_8 : decode cX9_adds 8 = .ok (.bipush 76, 2) := by decide +kernel
theorem dX9_adds_10 : decode cX9_adds 10 = .ok (.iaload, 1) := by decide +kernel
theorem dX9_adds_11 : decode cX9_adds 11 = .ok (.istore_n 3, 1) := by decide +kernel
theorem dX9_adds_12 : decode cX9_adds 12 = .ok (.aload_n 0, 1) := by decide +kernel
theorem dX9_adds_13 : decode cX9_adds 13 = .ok (.getfield 7, 3) := by decide +kernel
theorem dX9_adds_16 : decode cX9_adds 16 = .ok (.bipush 77, 2) := by decide +kernel
theorem dX9_adds_18 : decode cX9_adds 18 = .ok (.iconst 2, 1) := by decide +kernel
theorem dX9_adds_19 : decode cX9_adds 19 = .ok (.iload_n 3, 1) := by decide +kernel
theorem dX9_adds_20 : decode cX9_adds 20 = .ok (.imul, 1) := by decide +kernel
theorem dX9_adds_21 : decode cX9_adds 21 = .ok (.iadd, 1) := by decide +kernel
theorem dX9_adds_22 : decode cX9_adds 22 = .ok (.iload_n 1, 1) := by decide +kernel
theorem dX9_adds_23 : decode cX9_adds 23 = .ok (.iastore, 1) := by decide +kernel
theorem dX9_adds_24 : decode cX9_adds 24 = .ok (.aload_n 0, 1) := by decide +kernel
theorem dX9_adds_25 : decode cX9_adds 25 = .ok (.getfield 7, 3) := by decide +kernel
theorem dX9_adds_28 : decode cX9_adds 28 = .ok (.bipush 77, 2) := by decide +kernel
theorem dX9_adds_30 : decode cX9_adds 30 = .ok (.iconst 2, 1) := by decide +kernel
theorem dX9_adds_31 : decode cX9_adds 31 = .ok (.iload_n 3, 1) := by decide +kernel
theorem dX9_adds_32 : decode cX9_adds 32 = .ok (.imul, 1) := by decide +kernel
theorem dX9_adds_33 : decode cX9_adds 33 = .ok (.iadd, 1) := by decide +kernel
theorem dX9_adds_34 : decode cX9_adds 34 = .ok (.iconst 1, 1) := by decide +kernel
theorem dX9_adds_35 : decode cX9_adds 35 = .ok (.iadd, 1) := by decide +kernel
theorem dX9_adds_36 : decode cX9_adds 36 = .ok (.iload_n 2, 1) := by decide +kernel
theorem dX9_adds_37 : decode cX9_adds 37 = .ok (.iastore, 1) := by decide +kernel
theorem dX9_adds_38 : decode cX9_adds 38 = .ok (.aload_n 0, 1) := by decide +kernel
theorem dX9_adds_39 : decode cX9_adds 39 = .ok (.getfield 7, 3) := by decide +kernel
theorem dX9_adds_42 : decode cX9_adds 42 = .ok (.bipush 76, 2) := by decide +kernel
theorem dX9_adds_44 : decode cX9_adds 44 = .ok (.dup2, 1) := by decide +kernel
theorem dX9_adds_45 : decode cX9_adds 45 = .ok (.iaload, 1) := by decide +kernel
theorem dX9_adds_46 : decode cX9_adds 46 = .ok (.iconst 1, 1) := by decide +kernel
theorem dX9_adds_47 : decode cX9_adds 47 = .ok (.iadd, 1) := by decide +kernel
theorem dX9_adds_48 : decode cX9_adds 48 = .ok (.iastore, 1) := by decide +kernel
theorem dX9_adds_49 : decode cX9_adds 49 = .ok (.iload_n 3, 1) := by decide +kernel
theorem dX9_adds_50 : decode cX9_adds 50 = .ok (.ireturn, 1) := by decide +kernel
theorem dX9_read_0 : decode cX9_read 0 = .ok (.iload_n 1, 1) := by decide +kernel
theorem dX9_read_1 : decode cX9_read 1 = .ok (.iconst 1, 1) := by decide +kernel
theorem dX9_read_2 : decode cX9_read 2 = .ok (.sipush 500, 3) := by decide +kernel
theorem dX9_read_5 : decode cX9_read 5 = .ok (.invokestatic 55, 3) := by decide +kernel
theorem dX9_read_8 : decode cX9_read 8 = .ok (.ifCond .eq 14, 3) := by decide +kernel
theorem dX9_read_11 : decode cX9_read 11 = .ok (.iload_n 2, 1) := by decide +kernel
theorem dX9_read_12 : decode cX9_read 12 = .ok (.bipush (-30), 2) := by decide +kernel
theorem dX9_read_14 : decode cX9_read 14 = .ok (.bipush 30, 2) := by decide +kernel
theorem dX9_read_16 : decode cX9_read 16 = .ok (.invokestatic 55, 3) := by decide +kernel
theorem dX9_read_19 : decode cX9_read 19 = .ok (.ifCond .ne 7, 3) := by decide +kernel
theorem dX9_read_22 : decode cX9_read 22 = .ok (.sipush (-1001), 3) := by decide +kernel
theorem dX9_read_25 : decode cX9_read 25 = .ok (.ireturn, 1) := by decide +kernel
theorem dX9_read_26 : decode cX9_read 26 = .ok (.aload_n 0, 1) := by decide +kernel
theorem dX9_read_27 : decode cX9_read 27 = .ok (.getfield 7, 3) := by decide +kernel
theorem dX9_read_30 : decode cX9_read 30 = .ok (.bipush 76, 2) := by decide +kernel
theorem dX9_read_32 : decode cX9_read 32 = .ok (.iaload, 1) := by decide +kernel
theorem dX9_read_33 : decode cX9_read 33 = .ok (.bipush 8, 2) := by decide +kernel
theorem dX9_read_35 : decode cX9_read 35 = .ok (.if_icmp .ne 9, 3) := by decide +kernel
theorem dX9_read_38 : decode cX9_read 38 = .ok (.sipush (-1003), 3) := by decide +kernel
theorem dX9_read_41 : decode cX9_read 41 = .ok (.goto 9, 3) := by decide +kernel
theorem dX9_read_44 : decode cX9_read 44 = .ok (.aload_n 0, 1) := by decide +kernel
theorem dX9_read_45 : decode cX9_read 45 = .ok (.iload_n 1, 1) := by decide +kernel
theorem dX9_read_46 : decode cX9_read 46 = .ok (.iload_n 2, 1) := by decide +kernel
theorem dX9_read_47 : decode cX9_read 47 = .ok (.invokevirtual 147, 3) := by decide +kernel
theorem dX9_read_50 : decode cX9_read 50 = .ok (.ireturn, 1) := by decide +kernel
theorem dX9_look_0 : decode cX9_look 0 = .ok (.iload_n 1, 1) := by decide +kernel
theorem dX9_look_1 : decode cX9_look 1 = .ok (.iconst 0, 1) := by decide +kernel
theorem dX9_look_2 : decode cX9_look 2 = .ok (.aload_n 0, 1) := by decide +kernel
theorem dX9_look_3 : decode cX9_look 3 = .ok (.invokevirtual 126, 3) := by decide +kernel
theorem dX9_look_6 : decode cX9_look 6 = .ok (.iconst 2, 1) := by decide +kernel
theorem dX9_look_7 : decode cX9_look 7 = .ok (.isub, 1) := by decide +kernel
theorem dX9_look_8 : decode cX9_look 8 = .ok (.invokestatic 55, 3) := by decide +kernel
theorem dX9_look_11 : decode cX9_look 11 = .ok (.ifCond .ne 7, 3) := by decide +kernel
theorem dX9_look_14 : decode cX9_look 14 = .ok (.sipush (-1001), 3) := by decide +kernel
theorem dX9_look_17 : decode cX9_look 17 = .ok (.ireturn, 1) := by decide +kernel
theorem dX9_look_18 : decode cX9_look 18 = .ok (.aload_n 0, 1) := by decide +kernel
theorem dX9_look_19 : decode cX9_look 19 = .ok (.getfield 7, 3) := by decide +kernel
theorem dX9_look_22 : decode cX9_look 22 = .ok (.bipush 76, 2) := by decide +kernel
theorem dX9_look_24 : decode cX9_look 24 = .ok (.iaload, 1) := by decide +kernel
theorem dX9_look_25 : decode cX9_look 25 = .ok (.bipush 8, 2) := by decide +kernel
theorem dX9_look_27 : decode cX9_look 27 = .ok (.if_icmp .ne 7, 3) := by decide +kernel
theorem dX9_look_30 : decode cX9_look 30 = .ok (.sipush (-1003), 3) := by decide +kernel
theorem dX9_look_33 : decode cX9_look 33 = .ok (.ireturn, 1) := by decide +kernel
theorem dX9_look_34 : decode cX9_look 34 = .ok (.aload_n 0, 1) := by decide +kernel
theorem dX9_look_35 : decode cX9_look 35 = .ok (.invokevirtual 120, 3) := by decide +kernel
theorem dX9_look_38 : decode cX9_look 38 = .ok (.aload_n 0, 1) := by decide +kernel
theorem dX9_look_39 : decode cX9_look 39 = .ok (.aload_n 0, 1) := by decide +kernel
theorem dX9_look_40 : decode cX9_look 40 = .ok (.getfield 7, 3) := by decide +kernel
theorem dX9_look_43 : decode cX9_look 43 = .ok (.bipush 75, 2) := by decide +kernel
theorem dX9_look_45 : decode cX9_look 45 = .ok (.iaload, 1) := by decide +kernel
theorem dX9_look_46 : decode cX9_look 46 = .ok (.aload_n 0, 1) := by decide +kernel
theorem dX9_look_47 : decode cX9_look 47 = .ok (.iload_n 1, 1) := by decide +kernel
theorem dX9_look_48 : decode cX9_look 48 = .ok (.invokevirtual 138, 3) := by decide +kernel
theorem dX9_look_51 : decode cX9_look 51 = .ok (.invokevirtual 147, 3) := by decide +kernel
theorem dX9_look_54 : decode cX9_look 54 = .ok (.ireturn, 1) := by decide +kernel
theorem dX9_dropReading_0 : decode cX9_dropReading 0 = .ok (.aload_n 0, 1) := by decide +kernel
theorem dX9_dropReading_1 : decode cX9_dropReading 1 = .ok (.iload_n 1, 1) := by decide +kernel
theorem dX9_dropReading_2 : decode cX9_dropReading 2 = .ok (.invokevirtual 150, 3) := by decide +kernel
theorem dX9_dropReading_5 : decode cX9_dropReading 5 = .ok (.ifCond .ne 7, 3) := by decide +kernel
theorem dX9_dropReading_8 : decode cX9_dropReading 8 = .ok (.sipush (-1001), 3) := by decide +kernel
theorem dX9_dropReading_11 : decode cX9_dropReading 11 = .ok (.ireturn, 1) := by decide +kernel
theorem dX9_dropReading_12 : decode cX9_dropReading 12 = .ok (.aload_n 0, 1) := by decide +kernel
theorem dX9_dropReading_13 : decode cX9_dropReading 13 = .ok (.invokevirtual 101, 3) := by decide +kernel
theorem dX9_dropReading_16 : decode cX9_dropReading 16 = .ok (.aload_n 0, 1) := by decide +kernel
theorem dX9_dropReading_17 : decode cX9_dropReading 17 = .ok (.getfield 7, 3) := by decide +kernel
theorem dX9_dropReading_20 : decode cX9_dropReading 20 = .ok (.bipush 76, 2) := by decide +kernel
theorem dX9_dropReading_22 : decode cX9_dropReading 22 = .ok (.dup2, 1) := by decide +kernel
theorem dX9_dropReading_23 : decode cX9_dropReading 23 = .ok (.iaload, 1) := by decide +kernel
theorem dX9_dropReading_24 : decode cX9_dropReading 24 = .ok (.iconst 1, 1) := by decide +kernel
theorem dX9_dropReading_25 : decode cX9_dropReading 25 = .ok (.isub, 1) := by decide +kernel
theorem dX9_dropReading_26 : decode cX9_dropReading 26 = .ok (.iastore, 1) := by decide +kernel
theorem dX9_dropReading_27 : decode cX9_dropReading 27 = .ok (.iconst 2, 1) := by decide +kernel
theorem dX9_dropReading_28 : decode cX9_dropReading 28 = .ok (.iload_n 1, 1) := by decide +kernel
theorem dX9_dropReading_29 : decode cX9_dropReading 29 = .ok (.imul, 1) := by decide +kernel
theorem dX9_dropReading_30 : decode cX9_dropReading 30 = .ok (.istore_n 2, 1) := by decide +kernel
theorem dX9_dropReading_31 : decode cX9_dropReading 31 = .ok (.iload_n 2, 1) := by decide +kernel
theorem dX9_dropReading_32 : decode cX9_dropReading 32 = .ok (.iconst 2, 1) := by decide +kernel
theorem dX9_dropReading_33 : decode cX9_dropReading 33 = .ok (.aload_n 0, 1) := by decide +kernel
theorem dX9_dropReading_34 : decode cX9_dropReading 34 = .ok (.getfield 7, 3) := by decide +kernel
theorem dX9_dropReading_37 : decode cX9_dropReading 37 = .ok (.bipush 76, 2) := by decide +kernel
theorem dX9_dropReading_39 : decode cX9_dropReading 39 = .ok (.iaload, 1) := by decide +kernel
theorem dX9_dropReading_40 : decode cX9_dropReading 40 = .ok (.imul, 1) := by decide +kernel
theorem dX9_dropReading_41 : decode cX9_dropReading 41 = .ok (.if_icmp .ge 29, 3) := by decide +kernel
theorem dX9_dropReading_44 : decode cX9_dropReading 44 = .ok (.aload_n 0, 1) := by decide +kernel
theorem dX9_dropReading_45 : decode cX9_dropReading 45 = .ok (.getfield 7, 3) := by decide +kernel
theorem dX9_dropReading_48 : decode cX9_dropReading 48 = .ok (.bipush 77, 2) := by decide +kernel
theorem dX9_dropReading_50 : decode cX9_dropReading 50 = .ok (.iload_n 2, 1) := by decide +kernel
theorem dX9_dropReading_51 : decode cX9_dropReading 51 = .ok (.iadd, 1) := by decide +kernel
theorem dX9_dropReading_52 : decode cX9_dropReading 52 = .ok (.aload_n 0, 1) := by decide +kernel
theorem dX9_dropReading_53 : decode cX9_dropReading 53 = .ok (.getfield 7, 3) := by decide +kernel
theorem dX9_dropReading_56 : decode cX9_dropReading 56 = .ok (.bipush 77, 2) := by decide +kernel
theorem dX9_dropReading_58 : decode cX9_dropReading 58 = .ok (.iload_n 2, 1) := by decide +kernel
theorem dX9_dropReading_59 : decode cX9_dropReading 59 = .ok (.iadd, 1) := by decide +kernel
theorem dX9_dropReading_60 : decode cX9_dropReading 60 = .ok (.iconst 2, 1) := by decide +kernel
theorem dX9_dropReading_61 : decode cX9_dropReading 61 = .ok (.iadd, 1) := by decide +kernel
theorem dX9_dropReading_62 : decode cX9_dropReading 62 = .ok (.iaload, 1) := by decide +kernel
theorem dX9_dropReading_63 : decode cX9_dropReading 63 = .ok (.iastore, 1) := by decide +kernel
theorem dX9_dropReading_64 : decode cX9_dropReading 64 = .ok (.iinc 2 1, 3) := by decide +kernel
theorem dX9_dropReading_67 : decode cX9_dropReading 67 = .ok (.goto (-36), 3) := by decide +kernel
theorem dX9_dropReading_70 : decode cX9_dropReading 70 = .ok (.aload_n 0, 1) := by decide +kernel
theorem dX9_dropReading_71 : decode cX9_dropReading 71 = .ok (.getfield 7, 3) := by decide +kernel
theorem dX9_dropReading_74 : decode cX9_dropReading 74 = .ok (.bipush 76, 2) := by decide +kernel
theorem dX9_dropReading_76 : decode cX9_dropReading 76 = .ok (.iaload, 1) := by decide +kernel
theorem dX9_dropReading_77 : decode cX9_dropReading 77 = .ok (.ireturn, 1) := by decide +kernel
theorem dX9_finds_0 : decode cX9_finds 0 = .ok (.aload_n 0, 1) := by decide +kernel
theorem dX9_finds_1 : decode cX9_finds 1 = .ok (.invokevirtual 41, 3) := by decide +kernel
theorem dX9_finds_4 : decode cX9_finds 4 = .ok (.istore_n 2, 1) := by decide +kernel
theorem dX9_finds_5 : decode cX9_finds 5 = .ok (.aload_n 0, 1) := by decide +kernel
theorem dX9_finds_6 : decode cX9_finds 6 = .ok (.iconst 0, 1) := by decide +kernel
theorem dX9_finds_7 : decode cX9_finds 7 = .ok (.putfield 153, 3) := by decide +kernel
theorem dX9_finds_10 : decode cX9_finds 10 = .ok (.aload_n 0, 1) := by decide +kernel
theorem dX9_finds_11 : decode cX9_finds 11 = .ok (.getfield 7, 3) := by decide +kernel
theorem dX9_finds_14 : decode cX9_finds 14 = .ok (.bipush 93, 2) := by decide +kernel
theorem dX9_finds_16 : decode cX9_finds 16 = .ok (.iaload, 1) := by decide +kernel
theorem dX9_finds_17 : decode cX9_finds 17 = .ok (.ineg, 1) := by decide +kernel
theorem dX9_finds_18 : decode cX9_finds 18 = .ok (.istore_n 3, 1) := by decide +kernel
theorem dX9_finds_19 : decode cX9_finds 19 = .ok (.iload_n 3, 1) := by decide +kernel
theorem dX9_finds_20 : decode cX9_finds 20 = .ok (.aload_n 0, 1) := by decide +kernel
theorem dX9_finds_21 : decode cX9_finds 21 = .ok (.getfield 7, 3) := by decide +kernel
theorem dX9_finds_24 : decode cX9_finds 24 = .ok (.bipush 93, 2) := by decide +kernel
theorem dX9_finds_26 : decode cX9_finds 26 = .ok (.iaload, 1) := by decide +kernel
theorem dX9_finds_27 : decode cX9_finds 27 = .ok (.if_icmp .gt 110, 3) := by decide +kernel
theorem dX9_finds_30 : decode cX9_finds 30 = .ok (.iconst 1, 1) := by decide +kernel
theorem dX9_finds_31 : decode cX9_finds 31 = .ok (.istore 4, 2) := by decide +kernel
theorem dX9_finds_33 : decode cX9_finds 33 = .ok (.iconst 0, 1) := by decide +kernel
theorem dX9_finds_34 : decode cX9_finds 34 = .ok (.istore 5, 2) := by decide +kernel
theorem dX9_finds_36 : decode cX9_finds 36 = .ok (.iload 5, 2) := by decide +kernel
theorem dX9_finds_38 : decode cX9_finds 38 = .ok (.aload_n 0, 1) := by decide +kernel
theorem dX9_finds_39 : decode cX9_finds 39 = .ok (.getfield 7, 3) := by decide +kernel
theorem dX9_finds_42 : decode cX9_finds 42 = .ok (.bipush 76, 2) := by decide +kernel
theorem dX9_finds_44 : decode cX9_finds 44 = .ok (.iaload, 1) := by decide +kernel
theorem dX9_finds_45 : decode cX9_finds 45 = .ok (.if_icmp .ge 61, 3) := by decide +kernel
theorem dX9_finds_48 : decode cX9_finds 48 = .ok (.iload 4, 2) := by decide +kernel
theorem dX9_finds_50 : decode cX9_finds 50 = .ok (.ifCond .eq 56, 3) := by decide +kernel
theorem dX9_finds_53 : decode cX9_finds 53 = .ok (.iload 5, 2) := by decide +kernel
theorem dX9_finds_55 : decode cX9_finds 55 = .ok (.iload_n 1, 1) := by decide +kernel
theorem dX9_finds_56 : decode cX9_finds 56 = .ok (.if_icmp .eq 37, 3) := by decide +kernel
theorem dX9_finds_59 : decode cX9_finds 59 = .ok (.iload_n 3, 1) := by decide +kernel
theorem dX9_finds_60 : decode cX9_finds 60 = .ok (.aload_n 0, 1) := by decide +kernel
theorem dX9_finds_61 : decode cX9_finds 61 = .ok (.getfield 7, 3) := by decide +kernel
theorem dX9_finds_64 : decode cX9_finds 64 = .ok (.bipush 77, 2) := by decide +kernel
theorem dX9_finds_66 : decode cX9_finds 66 = .ok (.iconst 2, 1) := by decide +kernel
theorem dX9_finds_67 : decode cX9_finds 67 = .ok (.iload 5, 2) := by decide +kernel
theorem dX9_finds_69 : decode cX9_finds 69 = .ok (.imul, 1) := by decide +kernel
theorem dX9_finds_70 : decode cX9_finds 70 = .ok (.iadd, 1) := by decide +kernel
theorem dX9_finds_71 : decode cX9_finds 71 = .ok (.iaload, 1) := by decide +kernel
theorem dX9_finds_72 : decode cX9_finds 72 = .ok (.imul, 1) := by decide +kernel
theorem dX9_finds_73 : decode cX9_finds 73 = .ok (.aload_n 0, 1) := by decide +kernel
theorem dX9_finds_74 : decode cX9_finds 74 = .ok (.getfield 7, 3) := by decide +kernel
theorem dX9_finds_77 : decode cX9_finds 77 = .ok (.bipush 77, 2) := by decide +kernel
theorem dX9_finds_79 : decode cX9_finds 79 = .ok (.iconst 2, 1) := by decide +kernel
theorem dX9_finds_80 : decode cX9_finds 80 = .ok (.iload 5, 2) := by decide +kernel
theorem dX9_finds_82 : decode cX9_finds 82 = .ok (.imul, 1) := by decide +kernel
theorem dX9_finds_83 : decode cX9_finds 83 = .ok (.iadd, 1) := by decide +kernel
theorem dX9_finds_84 : decode cX9_finds 84 = .ok (.iconst 1, 1) := by decide +kernel
theorem dX9_finds_85 : decode cX9_finds 85 = .ok (.iadd, 1) := by decide +kernel
theorem dX9_finds_86 : decode cX9_finds 86 = .ok (.iaload, 1) := by decide +kernel
theorem dX9_finds_87 : decode cX9_finds 87 = .ok (.isub, 1) := by decide +kernel
theorem dX9_finds_88 : decode cX9_finds 88 = .ok (.iload_n 2, 1) := by decide +kernel
theorem dX9_finds_89 : decode cX9_finds 89 = .ok (.irem, 1) := by decide +kernel
theorem dX9_finds_90 : decode cX9_finds 90 = .ok (.ifCond .ne 7, 3) := by decide +kernel
theorem dX9_finds_93 : decode cX9_finds 93 = .ok (.iconst 1, 1) := by decide +kernel
theorem dX9_finds_94 : decode cX9_finds 94 = .ok (.goto 4, 3) := by decide +kernel
theorem dX9_finds_97 : decode cX9_finds 97 = .ok (.iconst 0, 1) := by decide +kernel
theorem dX9_finds_98 : decode cX9_finds 98 = .ok (.istore 4, 2) := by decide +kernel
theorem dX9_finds_100 : decode cX9_finds 100 = .ok (.iinc 5 1, 3) := by decide +kernel
theorem dX9_finds_103 : decode cX9_finds 103 = .ok (.goto (-67), 3) := by decide +kernel
theorem dX9_finds_106 : decode cX9_finds 106 = .ok (.iload 4, 2) := by decide +kernel
theorem dX9_finds_108 : decode cX9_finds 108 = .ok (.ifCond .eq 23, 3) := by decide +kernel
theorem dX9_finds_111 : decode cX9_finds 111 = .ok (.aload_n 0, 1) := by decide +kernel
theorem dX9_finds_112 : decode cX9_finds 112 = .ok (.getfield 23, 3) := by decide +kernel
theorem dX9_finds_115 : decode cX9_finds 115 = .ok (.aload_n 0, 1) := by decide +kernel
theorem dX9_finds_116 : decode cX9_finds 116 = .ok (.getfield 153, 3) := by decide +kernel
theorem dX9_finds_119 : decode cX9_finds 119 = .ok (.iload_n 3, 1) := by decide +kernel
theorem dX9_finds_120 : decode cX9_finds 120 = .ok (.iastore, 1) := by decide +kernel
theorem dX9_finds_121 : decode cX9_finds 121 = .ok (.aload_n 0, 1) := by decide +kernel
theorem dX9_finds_122 : decode cX9_finds 122 = .ok (.dup, 1) := by decide +kernel
theorem dX9_finds_123 : decode cX9_finds 123 = .ok (.getfield 153, 3) := by decide +kernel
theorem dX9_finds_126 : decode cX9_finds 126 = .ok (.iconst 1, 1) := by decide +kernel
theorem dX9_finds_127 : decode cX9_finds 127 = .ok (.iadd, 1) := by decide +kernel
theorem dX9_finds_128 : decode cX9_finds 128 = .ok (.putfield 153, 3) := by decide +kernel
theorem dX9_finds_131 : decode cX9_finds 131 = .ok (.iinc 3 1, 3) := by decide +kernel
theorem dX9_finds_134 : decode cX9_finds 134 = .ok (.goto (-115), 3) := by decide +kernel
theorem dX9_finds_137 : decode cX9_finds 137 = .ok (.return_, 1) := by decide +kernel
theorem dX9_reading_0 : decode cX9_reading 0 = .ok (.aload_n 0, 1) := by decide +kernel
theorem dX9_reading_1 : decode cX9_reading 1 = .ok (.iload_n 1, 1) := by decide +kernel
theorem dX9_reading_2 : decode cX9_reading 2 = .ok (.invokevirtual 150, 3) := by decide +kernel
theorem dX9_reading_5 : decode cX9_reading 5 = .ok (.ifCond .eq 12, 3) := by decide +kernel
theorem dX9_reading_8 : decode cX9_reading 8 = .ok (.iload_n 2, 1) := by decide +kernel
theorem dX9_reading_9 : decode cX9_reading 9 = .ok (.iconst 0, 1) := by decide +kernel
theorem dX9_reading_10 : decode cX9_reading 10 = .ok (.iconst 2, 1) := by decide +kernel
theorem dX9_reading_11 : decode cX9_reading 11 = .ok (.invokestatic 55, 3) := by decide +kernel
theorem dX9_reading_14 : decode cX9_reading 14 = .ok (.ifCond .ne 7, 3) := by decide +kernel
theorem dX9_reading_17 : decode cX9_reading 17 = .ok (.sipush (-1001), 3) := by decide +kernel
theorem dX9_reading_20 : decode cX9_reading 20 = .ok (.ireturn, 1) := by decide +kernel
theorem dX9_reading_21 : decode cX9_reading 21 = .ok (.iload_n 2, 1) := by decide +kernel
theorem dX9_reading_22 : decode cX9_reading 22 = .ok (.iconst 2, 1) := by decide +kernel
theorem dX9_reading_23 : decode cX9_reading 23 = .ok (.if_icmp .ge 17, 3) := by decide +kernel
theorem dX9_reading_26 : decode cX9_reading 26 = .ok (.aload_n 0, 1) := by decide +kernel
theorem dX9_reading_27 : decode cX9_reading 27 = .ok (.getfield 7, 3) := by decide +kernel
theorem dX9_reading_30 : decode cX9_reading 30 = .ok (.bipush 77, 2) := by decide +kernel
theorem dX9_reading_32 : decode cX9_reading 32 = .ok (.iconst 2, 1) := by decide +kernel
theorem dX9_reading_33 : decode cX9_reading 33 = .ok (.iload_n 1, 1) := by decide +kernel
theorem dX9_reading_34 : decode cX9_reading 34 = .ok (.imul, 1) := by decide +kernel
theorem dX9_reading_35 : decode cX9_reading 35 = .ok (.iadd, 1) := by decide +kernel
theorem dX9_reading_36 : decode cX9_reading 36 = .ok (.iload_n 2, 1) := by decide +kernel
theorem dX9_reading_37 : decode cX9_reading 37 = .ok (.iadd, 1) := by decide +kernel
theorem dX9_reading_38 : decode cX9_reading 38 = .ok (.iaload, 1) := by decide +kernel
theorem dX9_reading_39 : decode cX9_reading 39 = .ok (.ireturn, 1) := by decide +kernel
theorem dX9_reading_40 : decode cX9_reading 40 = .ok (.aload_n 0, 1) := by decide +kernel
theorem dX9_reading_41 : decode cX9_reading 41 = .ok (.iload_n 1, 1) := by decide +kernel
theorem dX9_reading_42 : decode cX9_reading 42 = .ok (.invokevirtual 156, 3) := by decide +kernel
theorem dX9_reading_45 : decode cX9_reading 45 = .ok (.aload_n 0, 1) := by decide +kernel
theorem dX9_reading_46 : decode cX9_reading 46 = .ok (.getfield 153, 3) := by decide +kernel
theorem dX9_reading_49 : decode cX9_reading 49 = .ok (.ireturn, 1) := by decide +kernel
theorem dX9_setLimit_0 : decode cX9_setLimit 0 = .ok (.iload_n 1, 1) := by decide +kernel
theorem dX9_setLimit_1 : decode cX9_setLimit 1 = .ok (.iconst 1, 1) := by decide +kernel
theorem dX9_setLimit_2 : decode cX9_setLimit 2 = .ok (.sipush 1000, 3) := by decide +kernel
theorem dX9_setLimit_5 : decode cX9_setLimit 5 = .ok (.invokestatic 55, 3) := by decide +kernel
theorem dX9_setLimit_8 : decode cX9_setLimit 8 = .ok (.ifCond .eq 13, 3) := by decide +kernel
theorem dX9_setLimit_11 : decode cX9_setLimit 11 = .ok (.aload_n 0, 1) := by decide +kernel
theorem dX9_setLimit_12 : decode cX9_setLimit 12 = .ok (.bipush 93, 2) := by decide +kernel
theorem dX9_setLimit_14 : decode cX9_setLimit 14 = .ok (.iload_n 1, 1) := by decide +kernel
theorem dX9_setLimit_15 : decode cX9_setLimit 15 = .ok (.invokevirtual 108, 3) := by decide +kernel
theorem dX9_setLimit_18 : decode cX9_setLimit 18 = .ok (.goto 6, 3) := by decide +kernel
theorem dX9_setLimit_21 : decode cX9_setLimit 21 = .ok (.sipush (-1001), 3) := by decide +kernel
theorem dX9_setLimit_24 : decode cX9_setLimit 24 = .ok (.ireturn, 1) := by decide +kernel
theorem dX9_candidates_0 : decode cX9_candidates 0 = .ok (.aload_n 0, 1) := by decide +kernel
theorem dX9_candidates_1 : decode cX9_candidates 1 = .ok (.sipush (-1004), 3) := by decide +kernel
theorem dX9_candidates_4 : decode cX9_candidates 4 = .ok (.invokevirtual 156, 3) := by decide +kernel
theorem dX9_candidates_7 : decode cX9_candidates 7 = .ok (.aload_n 0, 1) := by decide +kernel
theorem dX9_candidates_8 : decode cX9_candidates 8 = .ok (.getfield 153, 3) := by decide +kernel
theorem dX9_candidates_11 : decode cX9_candidates 11 = .ok (.ireturn, 1) := by decide +kernel
theorem dX9_candidate_0 : decode cX9_candidate 0 = .ok (.iload_n 1, 1) := by decide +kernel
theorem dX9_candidate_1 : decode cX9_candidate 1 = .ok (.ifCond .ge 7, 3) := by decide +kernel
theorem dX9_candidate_4 : decode cX9_candidate 4 = .ok (.sipush (-1001), 3) := by decide +kernel
theorem dX9_candidate_7 : decode cX9_candidate 7 = .ok (.ireturn, 1) := by decide +kernel
theorem dX9_candidate_8 : decode cX9_candidate 8 = .ok (.aload_n 0, 1) := by decide +kernel
theorem dX9_candidate_9 : decode cX9_candidate 9 = .ok (.sipush (-1004), 3) := by decide +kernel
theorem dX9_candidate_12 : decode cX9_candidate 12 = .ok (.invokevirtual 156, 3) := by decide +kernel
theorem dX9_candidate_15 : decode cX9_candidate 15 = .ok (.iload_n 1, 1) := by decide +kernel
theorem dX9_candidate_16 : decode cX9_candidate 16 = .ok (.aload_n 0, 1) := by decide +kernel
theorem dX9_candidate_17 : decode cX9_candidate 17 = .ok (.getfield 153, 3) := by decide +kernel
theorem dX9_candidate_20 : decode cX9_candidate 20 = .ok (.if_icmp .ge 12, 3) := by decide +kernel
theorem dX9_candidate_23 : decode cX9_candidate 23 = .ok (.aload_n 0, 1) := by decide +kernel
theorem dX9_candidate_24 : decode cX9_candidate 24 = .ok (.getfield 23, 3) := by decide +kernel
theorem dX9_candidate_27 : decode cX9_candidate 27 = .ok (.iload_n 1, 1) := by decide +kernel
theorem dX9_candidate_28 : decode cX9_candidate 28 = .ok (.iaload, 1) := by decide +kernel
theorem dX9_candidate_29 : decode cX9_candidate 29 = .ok (.goto 6, 3) := by decide +kernel
theorem dX9_candidate_32 : decode cX9_candidate 32 = .ok (.sipush (-1004), 3) := by decide +kernel
theorem dX9_candidate_35 : decode cX9_candidate 35 = .ok (.ireturn, 1) := by decide +kernel
theorem dX9_apart_0 : decode cX9_apart 0 = .ok (.iload_n 0, 1) := by decide +kernel
theorem dX9_apart_1 : decode cX9_apart 1 = .ok (.iload_n 1, 1) := by decide +kernel
theorem dX9_apart_2 : decode cX9_apart 2 = .ok (.if_icmp .ge 9, 3) := by decide +kernel
theorem dX9_apart_5 : decode cX9_apart 5 = .ok (.iload_n 1, 1) := by decide +kernel
theorem dX9_apart_6 : decode cX9_apart 6 = .ok (.iload_n 0, 1) := by decide +kernel
theorem dX9_apart_7 : decode cX9_apart 7 = .ok (.isub, 1) := by decide +kernel
theorem dX9_apart_8 : decode cX9_apart 8 = .ok (.goto 6, 3) := by decide +kernel
theorem dX9_apart_11 : decode cX9_apart 11 = .ok (.iload_n 0, 1) := by decide +kernel
theorem dX9_apart_12 : decode cX9_apart 12 = .ok (.iload_n 1, 1) := by decide +kernel
theorem dX9_apart_13 : decode cX9_apart 13 = .ok (.isub, 1) := by decide +kernel
theorem dX9_apart_14 : decode cX9_apart 14 = .ok (.ireturn, 1) := by decide +kernel
theorem dX9_nearest_0 : decode cX9_nearest 0 = .ok (.iload_n 1, 1) := by decide +kernel
theorem dX9_nearest_1 : decode cX9_nearest 1 = .ok (.sipush (-1000), 3) := by decide +kernel
theorem dX9_nearest_4 : decode cX9_nearest 4 = .ok (.sipush 1000, 3) := by decide +kernel
theorem dX9_nearest_7 : decode cX9_nearest 7 = .ok (.invokestatic 55, 3) := by decide +kernel
theorem dX9_nearest_10 : decode cX9_nearest 10 = .ok (.ifCond .ne 7, 3) := by decide +kernel
theorem dX9_nearest_13 : decode cX9_nearest 13 = .ok (.sipush (-1001), 3) := by decide +kernel
theorem dX9_nearest_16 : decode cX9_nearest 16 = .ok (.ireturn, 1) := by decide +kernel
theorem dX9_nearest_17 : decode cX9_nearest 17 = .ok (.aload_n 0, 1) := by decide +kernel
theorem dX9_nearest_18 : decode cX9_nearest 18 = .ok (.sipush (-1004), 3) := by decide +kernel
theorem dX9_nearest_21 : decode cX9_nearest 21 = .ok (.invokevirtual 156, 3) := by decide +kernel
theorem dX9_nearest_24 : decode cX9_nearest 24 = .ok (.sipush (-1004), 3) := by decide +kernel
theorem dX9_nearest_27 : decode cX9_nearest 27 = .ok (.istore_n 2, 1) := by decide +kernel
theorem dX9_nearest_28 : decode cX9_nearest 28 = .ok (.iconst 0, 1) := by decide +kernel
theorem dX9_nearest_29 : decode cX9_nearest 29 = .ok (.istore_n 3, 1) := by decide +kernel
theorem dX9_nearest_30 : decode cX9_nearest 30 = .ok (.iconst 0, 1) := by decide +kernel
theorem dX9_nearest_31 : decode cX9_nearest 31 = .ok (.istore 4, 2) := by decide +kernel
theorem dX9_nearest_33 : decode cX9_nearest 33 = .ok (.iload 4, 2) := by decide +kernel
theorem dX9_nearest_35 : decode cX9_nearest 35 = .ok (.aload_n 0, 1) := by decide +kernel
theorem dX9_nearest_36 : decode cX9_nearest 36 = .ok (.getfield 153, 3) := by decide +kernel
theorem dX9_nearest_39 : decode cX9_nearest 39 = .ok (.if_icmp .ge 69, 3) := by decide +kernel
theorem dX9_nearest_42 : decode cX9_nearest 42 = .ok (.aload_n 0, 1) := by decide +kernel
theorem dX9_nearest_43 : decode cX9_nearest 43 = .ok (.getfield 23, 3) := by decide +kernel
theorem dX9_nearest_46 : decode cX9_nearest 46 = .ok (.iload 4, 2) := by decide +kernel
theorem dX9_nearest_48 : decode cX9_nearest 48 = .ok (.iaload, 1) := by decide +kernel
theorem dX9_nearest_49 : decode cX9_nearest 49 = .ok (.iload_n 1, 1) := by decide +kernel
theorem dX9_nearest_50 : decode cX9_nearest 50 = .ok (.invokestatic 160, 3) := by decide +kernel
theorem dX9_nearest_53 : decode cX9_nearest 53 = .ok (.istore 5, 2) := by decide +kernel
theorem dX9_nearest_55 : decode cX9_nearest 55 = .ok (.iload 4, 2) := by decide +kernel
theorem dX9_nearest_57 : decode cX9_nearest 57 = .ok (.ifCond .eq 9, 3) := by decide +kernel
theorem dX9_nearest_60 : decode cX9_nearest 60 = .ok (.iload 5, 2) := by decide +kernel
theorem dX9_nearest_62 : decode cX9_nearest 62 = .ok (.iload_n 3, 1) := by decide +kernel
theorem dX9_nearest_63 : decode cX9_nearest 63 = .ok (.if_icmp .ge 7, 3) := by decide +kernel
theorem dX9_nearest_66 : decode cX9_nearest 66 = .ok (.iconst 1, 1) := by decide +kernel
theorem dX9_nearest_67 : decode cX9_nearest 67 = .ok (.goto 4, 3) := by decide +kernel
theorem dX9_nearest_70 : decode cX9_nearest 70 = .ok (.iconst 0, 1) := by decide +kernel
theorem dX9_nearest_71 : decode cX9_nearest 71 = .ok (.istore 6, 2) := by decide +kernel
theorem dX9_nearest_73 : decode cX9_nearest 73 = .ok (.iload 6, 2) := by decide +kernel
theorem dX9_nearest_75 : decode cX9_nearest 75 = .ok (.ifCond .eq 13, 3) := by decide +kernel
theorem dX9_nearest_78 : decode cX9_nearest 78 = .ok (.aload_n 0, 1) := by decide +kernel
theorem dX9_nearest_79 : decode cX9_nearest 79 = .ok (.getfield 23, 3) := by decide +kernel
theorem dX9_nearest_82 : decode cX9_nearest 82 = .ok (.iload 4, 2) := by decide +kernel
theorem dX9_nearest_84 : decode cX9_nearest 84 = .ok (.iaload, 1) := by decide +kernel
theorem dX9_nearest_85 : decode cX9_nearest 85 = .ok (.goto 4, 3) := by decide +kernel
theorem dX9_nearest_88 : decode cX9_nearest 88 = .ok (.iload_n 2, 1) := by decide +kernel
theorem dX9_nearest_89 : decode cX9_nearest 89 = .ok (.istore_n 2, 1) := by decide +kernel
theorem dX9_nearest_90 : decode cX9_nearest 90 = .ok (.iload 6, 2) := by decide +kernel
theorem dX9_nearest_92 : decode cX9_nearest 92 = .ok (.ifCond .eq 8, 3) := by decide +kernel
theorem dX9_nearest_95 : decode cX9_nearest 95 = .ok (.iload 5, 2) := by decide +kernel
theorem dX9_nearest_97 : decode cX9_nearest 97 = .ok (.goto 4, 3) := by decide +kernel
theorem dX9_nearest_100 : decode cX9_nearest 100 = .ok (.iload_n 3, 1) := by decide +kernel
theorem dX9_nearest_101 : decode cX9_nearest 101 = .ok (.istore_n 3, 1) := by decide +kernel
theorem dX9_nearest_102 : decode cX9_nearest 102 = .ok (.iinc 4 1, 3) := by decide +kernel
theorem dX9_nearest_105 : decode cX9_nearest 105 = .ok (.goto (-72), 3) := by decide +kernel
theorem dX9_nearest_108 : decode cX9_nearest 108 = .ok (.iload_n 2, 1) := by decide +kernel
theorem dX9_nearest_109 : decode cX9_nearest 109 = .ok (.ireturn, 1) := by decide +kernel
theorem dX9_odd_0 : decode cX9_odd 0 = .ok (.aload_n 0, 1) := by decide +kernel
theorem dX9_odd_1 : decode cX9_odd 1 = .ok (.sipush (-1004), 3) := by decide +kernel
theorem dX9_odd_4 : decode cX9_odd 4 = .ok (.invokevirtual 156, 3) := by decide +kernel
theorem dX9_odd_7 : decode cX9_odd 7 = .ok (.aload_n 0, 1) := by decide +kernel
theorem dX9_odd_8 : decode cX9_odd 8 = .ok (.getfield 153, 3) := by decide +kernel
theorem dX9_odd_11 : decode cX9_odd 11 = .ok (.ifCond .le 7, 3) := by decide +kernel
theorem dX9_odd_14 : decode cX9_odd 14 = .ok (.sipush (-1002), 3) := by decide +kernel
theorem dX9_odd_17 : decode cX9_odd 17 = .ok (.ireturn, 1) := by decide +kernel
theorem dX9_odd_18 : decode cX9_odd 18 = .ok (.iconst 0, 1) := by decide +kernel
theorem dX9_odd_19 : decode cX9_odd 19 = .ok (.istore_n 1, 1) := by decide +kernel
theorem dX9_odd_20 : decode cX9_odd 20 = .ok (.iload_n 1, 1) := by decide +kernel
theorem dX9_odd_21 : decode cX9_odd 21 = .ok (.aload_n 0, 1) := by decide +kernel
theorem dX9_odd_22 : decode cX9_odd 22 = .ok (.getfield 7, 3) := by decide +kernel
theorem dX9_odd_25 : decode cX9_odd 25 = .ok (.bipush 76, 2) := by decide +kernel
theorem dX9_odd_27 : decode cX9_odd 27 = .ok (.iaload, 1) := by decide +kernel
theorem dX9_odd_28 : decode cX9_odd 28 = .ok (.if_icmp .ge 23, 3) := by decide +kernel
theorem dX9_odd_31 : decode cX9_odd 31 = .ok (.aload_n 0, 1) := by decide +kernel
theorem dX9_odd_32 : decode cX9_odd 32 = .ok (.iload_n 1, 1) := by decide +kernel
theorem dX9_odd_33 : decode cX9_odd 33 = .ok (.invokevirtual 156, 3) := by decide +kernel
theorem dX9_odd_36 : decode cX9_odd 36 = .ok (.aload_n 0, 1) := by decide +kernel
theorem dX9_odd_37 : decode cX9_odd 37 = .ok (.getfield 153, 3) := by decide +kernel
theorem dX9_odd_40 : decode cX9_odd 40 = .ok (.ifCond .le 5, 3) := by decide +kernel
theorem dX9_odd_43 : decode cX9_odd 43 = .ok (.iload_n 1, 1) := by decide +kernel
theorem dX9_odd_44 : decode cX9_odd 44 = .ok (.ireturn, 1) := by decide +kernel
theorem dX9_odd_45 : decode cX9_odd 45 = .ok (.iinc 1 1, 3) := by decide +kernel
theorem dX9_odd_48 : decode cX9_odd 48 = .ok (.goto (-28), 3) := by decide +kernel
theorem dX9_odd_51 : decode cX9_odd 51 = .ok (.sipush (-1004), 3) := by decide +kernel
theorem dX9_odd_54 : decode cX9_odd 54 = .ok (.ireturn, 1) := by decide +kernel
theorem dX9_restOf_0 : decode cX9_restOf 0 = .ok (.iconst 0, 1) := by decide +kernel
theorem dX9_restOf_1 : decode cX9_restOf 1 = .ok (.istore_n 3, 1) := by decide +kernel
theorem dX9_restOf_2 : decode cX9_restOf 2 = .ok (.iconst 0, 1) := by decide +kernel
theorem dX9_restOf_3 : decode cX9_restOf 3 = .ok (.istore 4, 2) := by decide +kernel
theorem dX9_restOf_5 : decode cX9_restOf 5 = .ok (.iload 4, 2) := by decide +kernel
theorem dX9_restOf_7 : decode cX9_restOf 7 = .ok (.iload_n 2, 1) := by decide +kernel
theorem dX9_restOf_8 : decode cX9_restOf 8 = .ok (.if_icmp .ge 17, 3) := by decide +kernel
theorem dX9_restOf_11 : decode cX9_restOf 11 = .ok (.aload_n 0, 1) := by decide +kernel
theorem dX9_restOf_12 : decode cX9_restOf 12 = .ok (.getfield 26, 3) := by decide +kernel
theorem dX9_restOf_15 : decode cX9_restOf 15 = .ok (.iload 4, 2) := by decide +kernel
theorem dX9_restOf_17 : decode cX9_restOf 17 = .ok (.iconst 0, 1) := by decide +kernel
theorem dX9_restOf_18 : decode cX9_restOf 18 = .ok (.iastore, 1) := by decide +kernel
theorem dX9_restOf_19 : decode cX9_restOf 19 = .ok (.iinc 4 1, 3) := by decide +kernel
theorem dX9_restOf_22 : decode cX9_restOf 22 = .ok (.goto (-17), 3) := by decide +kernel
theorem dX9_restOf_25 : decode cX9_restOf 25 = .ok (.iconst 0, 1) := by decide +kernel
theorem dX9_restOf_26 : decode cX9_restOf 26 = .ok (.istore 4, 2) := by decide +kernel
theorem dX9_restOf_28 : decode cX9_restOf 28 = .ok (.iload 4, 2) := by decide +kernel
theorem dX9_restOf_30 : decode cX9_restOf 30 = .ok (.aload_n 0, 1) := by decide +kernel
theorem dX9_restOf_31 : decode cX9_restOf 31 = .ok (.getfield 153, 3) := by decide +kernel
theorem dX9_restOf_34 : decode cX9_restOf 34 = .ok (.if_icmp .ge 58, 3) := by decide +kernel
theorem dX9_restOf_37 : decode cX9_restOf 37 = .ok (.aload_n 0, 1) := by decide +kernel
theorem dX9_restOf_38 : decode cX9_restOf 38 = .ok (.getfield 23, 3) := by decide +kernel
theorem dX9_restOf_41 : decode cX9_restOf 41 = .ok (.iload 4, 2) := by decide +kernel
theorem dX9_restOf_43 : decode cX9_restOf 43 = .ok (.iaload, 1) := by decide +kernel
theorem dX9_restOf_44 : decode cX9_restOf 44 = .ok (.iload_n 1, 1) := by decide +kernel
theorem dX9_restOf_45 : decode cX9_restOf 45 = .ok (.imul, 1) := by decide +kernel
theorem dX9_restOf_46 : decode cX9_restOf 46 = .ok (.iload_n 2, 1) := by decide +kernel
theorem dX9_restOf_47 : decode cX9_restOf 47 = .ok (.invokestatic 47, 3) := by decide +kernel
theorem dX9_restOf_50 : decode cX9_restOf 50 = .ok (.istore 5, 2) := by decide +kernel
theorem dX9_restOf_52 : decode cX9_restOf 52 = .ok (.aload_n 0, 1) := by decide +kernel
theorem dX9_restOf_53 : decode cX9_restOf 53 = .ok (.getfield 26, 3) := by decide +kernel
theorem dX9_restOf_56 : decode cX9_restOf 56 = .ok (.iload 5, 2) := by decide +kernel
theorem dX9_restOf_58 : decode cX9_restOf 58 = .ok (.dup2, 1) := by decide +kernel
theorem dX9_restOf_59 : decode cX9_restOf 59 = .ok (.iaload, 1) := by decide +kernel
theorem dX9_restOf_60 : decode cX9_restOf 60 = .ok (.iconst 1, 1) := by decide +kernel
theorem dX9_restOf_61 : decode cX9_restOf 61 = .ok (.iadd, 1) := by decide +kernel
theorem dX9_restOf_62 : decode cX9_restOf 62 = .ok (.iastore, 1) := by decide +kernel
theorem dX9_restOf_63 : decode cX9_restOf 63 = .ok (.aload_n 0, 1) := by decide +kernel
theorem dX9_restOf_64 : decode cX9_restOf 64 = .ok (.getfield 26, 3) := by decide +kernel
theorem dX9_restOf_67 : decode cX9_restOf 67 = .ok (.iload 5, 2) := by decide +kernel
theorem dX9_restOf_69 : decode cX9_restOf 69 = .ok (.iaload, 1) := by decide +kernel
theorem dX9_restOf_70 : decode cX9_restOf 70 = .ok (.iload_n 3, 1) := by decide +kernel
theorem dX9_restOf_71 : decode cX9_restOf 71 = .ok (.if_icmp .le 13, 3) := by decide +kernel
theorem dX9_restOf_74 : decode cX9_restOf 74 = .ok (.aload_n 0, 1) := by decide +kernel
theorem dX9_restOf_75 : decode cX9_restOf 75 = .ok (.getfield 26, 3) := by decide +kernel
theorem dX9_restOf_78 : decode cX9_restOf 78 = .ok (.iload 5, 2) := by decide +kernel
theorem dX9_restOf_80 : decode cX9_restOf 80 = .ok (.iaload, 1) := by decide +kernel
theorem dX9_restOf_81 : decode cX9_restOf 81 = .ok (.goto 4, 3) := by decide +kernel
theorem dX9_restOf_84 : decode cX9_restOf 84 = .ok (.iload_n 3, 1) := by decide +kernel
theorem dX9_restOf_85 : decode cX9_restOf 85 = .ok (.istore_n 3, 1) := by decide +kernel
theorem dX9_restOf_86 : decode cX9_restOf 86 = .ok (.iinc 4 1, 3) := by decide +kernel
theorem dX9_restOf_89 : decode cX9_restOf 89 = .ok (.goto (-61), 3) := by decide +kernel
theorem dX9_restOf_92 : decode cX9_restOf 92 = .ok (.iload_n 3, 1) := by decide +kernel
theorem dX9_restOf_93 : decode cX9_restOf 93 = .ok (.ireturn, 1) := by decide +kernel
theorem dX9_bestPeriod_0 : decode cX9_bestPeriod 0 = .ok (.iload_n 1, 1) := by decide +kernel
theorem dX9_bestPeriod_1 : decode cX9_bestPeriod 1 = .ok (.iconst 1, 1) := by decide +kernel
theorem dX9_bestPeriod_2 : decode cX9_bestPeriod 2 = .ok (.sipush 500, 3) := by decide +kernel
theorem dX9_bestPeriod_5 : decode cX9_bestPeriod 5 = .ok (.invokestatic 55, 3) := by decide +kernel
theorem dX9_bestPeriod_8 : decode cX9_bestPeriod 8 = .ok (.ifCond .ne 7, 3) := by decide +kernel
theorem dX9_bestPeriod_11 : decode cX9_bestPeriod 11 = .ok (.sipush (-1001), 3) := by decide +kernel
theorem dX9_bestPeriod_14 : decode cX9_bestPeriod 14 = .ok (.ireturn, 1) := by decide +kernel
theorem dX9_bestPeriod_15 : decode cX9_bestPeriod 15 = .ok (.aload_n 0, 1) := by decide +kernel
theorem dX9_bestPeriod_16 : decode cX9_bestPeriod 16 = .ok (.sipush (-1004), 3) := by decide +kernel
theorem dX9_bestPeriod_19 : decode cX9_bestPeriod 19 = .ok (.invokevirtual 156, 3) := by decide +kernel
theorem dX9_bestPeriod_22 : decode cX9_bestPeriod 22 = .ok (.aload_n 0, 1) := by decide +kernel
theorem dX9_bestPeriod_23 : decode cX9_bestPeriod 23 = .ok (.getfield 153, 3) := by decide +kernel
theorem dX9_bestPeriod_26 : decode cX9_bestPeriod 26 = .ok (.ifCond .ne 7, 3) := by decide +kernel
theorem dX9_bestPeriod_29 : decode cX9_bestPeriod 29 = .ok (.sipush (-1004), 3) := by decide +kernel
theorem dX9_bestPeriod_32 : decode cX9_bestPeriod 32 = .ok (.ireturn, 1) := by decide +kernel
theorem dX9_bestPeriod_33 : decode cX9_bestPeriod 33 = .ok (.aload_n 0, 1) := by decide +kernel
theorem dX9_bestPeriod_34 : decode cX9_bestPeriod 34 = .ok (.invokevirtual 41, 3) := by decide +kernel
theorem dX9_bestPeriod_37 : decode cX9_bestPeriod 37 = .ok (.istore_n 3, 1) := by decide +kernel
theorem dX9_bestPeriod_38 : decode cX9_bestPeriod 38 = .ok (.sipush (-1004), 3) := by decide +kernel
theorem dX9_bestPeriod_41 : decode cX9_bestPeriod 41 = .ok (.istore 4, 2) := by decide +kernel
theorem dX9_bestPeriod_43 : decode cX9_bestPeriod 43 = .ok (.iconst 0, 1) := by decide +kernel
theorem dX9_bestPeriod_44 : decode cX9_bestPeriod 44 = .ok (.istore 5, 2) := by decide +kernel
theorem dX9_bestPeriod_46 : decode cX9_bestPeriod 46 = .ok (.iconst 1, 1) := by decide +kernel
theorem dX9_bestPeriod_47 : decode cX9_bestPeriod 47 = .ok (.istore 6, 2) := by decide +kernel
theorem dX9_bestPeriod_49 : decode cX9_bestPeriod 49 = .ok (.iload 6, 2) := by decide +kernel
theorem dX9_bestPeriod_51 : decode cX9_bestPeriod 51 = .ok (.iload_n 1, 1) := by decide +kernel
theorem dX9_bestPeriod_52 : decode cX9_bestPeriod 52 = .ok (.if_icmp .gt 66, 3) := by decide +kernel
theorem dX9_bestPeriod_55 : decode cX9_bestPeriod 55 = .ok (.aload_n 0, 1) := by decide +kernel
theorem dX9_bestPeriod_56 : decode cX9_bestPeriod 56 = .ok (.iload 6, 2) := by decide +kernel
theorem dX9_bestPeriod_58 : decode cX9_bestPeriod 58 = .ok (.iload_n 3, 1) := by decide +kernel
theorem dX9_bestPeriod_59 : decode cX9_bestPeriod 59 = .ok (.invokevirtual 163, 3) := by decide +kernel
theorem dX9_bestPeriod_62 : decode cX9_bestPeriod 62 = .ok (.istore 7, 2) := by decide +kernel
theorem dX9_bestPeriod_64 : decode cX9_bestPeriod 64 = .ok (.iload 6, 2) := by decide +kernel
theorem dX9_bestPeriod_66 : decode cX9_bestPeriod 66 = .ok (.iconst 1, 1) := by decide +kernel
theorem dX9_bestPeriod_67 : decode cX9_bestPeriod 67 = .ok (.if_icmp .eq 10, 3) := by decide +kernel
theorem dX9_bestPeriod_70 : decode cX9_bestPeriod 70 = .ok (.iload 7, 2) := by decide +kernel
theorem dX9_bestPeriod_72 : decode cX9_bestPeriod 72 = .ok (.iload 5, 2) := by decide +kernel
theorem dX9_bestPeriod_74 : decode cX9_bestPeriod 74 = .ok (.if_icmp .ge 7, 3) := by decide +kernel
theorem dX9_bestPeriod_77 : decode cX9_bestPeriod 77 = .ok (.iconst 1, 1) := by decide +kernel
theorem dX9_bestPeriod_78 : decode cX9_bestPeriod 78 = .ok (.goto 4, 3) := by decide +kernel
theorem dX9_bestPeriod_81 : decode cX9_bestPeriod 81 = .ok (.iconst 0, 1) := by decide +kernel
theorem dX9_bestPeriod_82 : decode cX9_bestPeriod 82 = .ok (.istore 8, 2) := by decide +kernel
theorem dX9_bestPeriod_84 : decode cX9_bestPeriod 84 = .ok (.iload 8, 2) := by decide +kernel
theorem dX9_bestPeriod_86 : decode cX9_bestPeriod 86 = .ok (.ifCond .eq 8, 3) := by decide +kernel
theorem dX9_bestPeriod_89 : decode cX9_bestPeriod 89 = .ok (.iload 6, 2) := by decide +kernel
end
section
theorem dX9_bestPeriod_91 : decode cX9_bestPeriod 91 = .ok (.goto 5, 3) := by decide +kernel
theorem dX9_bestPeriod_94 : decode cX9_bestPeriod 94 = .ok (.iload 4, 2) := by decide +kernel
theorem dX9_bestPeriod_96 : decode cX9_bestPeriod 96 = .ok (.istore 4, 2) := by decide +kernel
theorem dX9_bestPeriod_98 : decode cX9_bestPeriod 98 = .ok (.iload 8, 2) := by decide +kernel
theorem dX9_bestPeriod_100 : decode cX9_bestPeriod 100 = .ok (.ifCond .eq 8, 3) := by decide +kernel
theorem dX9_bestPeriod_103 : decode cX9_bestPeriod 103 = .ok (.iload 7, 2) := by decide +kernel
theorem dX9_bestPeriod_105 : decode cX9_bestPeriod 105 = .ok (.goto 5, 3) := by decide +kernel
theorem dX9_bestPeriod_108 : decode cX9_bestPeriod 108 = .ok (.iload 5, 2) := by decide +kernel
theorem dX9_bestPeriod_110 : decode cX9_bestPeriod 110 = .ok (.istore 5, 2) := by decide +kernel
theorem dX9_bestPeriod_112 : decode cX9_bestPeriod 112 = .ok (.iinc 6 1, 3) := by decide +kernel
theorem dX9_bestPeriod_115 : decode cX9_bestPeriod 115 = .ok (.goto (-66), 3) := by decide +kernel
theorem dX9_bestPeriod_118 : decode cX9_bestPeriod 118 = .ok (.iload_n 2, 1) := by decide +kernel
theorem dX9_bestPeriod_119 : decode cX9_bestPeriod 119 = .ok (.ifCond .eq 8, 3) := by decide +kernel
theorem dX9_bestPeriod_122 : decode cX9_bestPeriod 122 = .ok (.iload 5, 2) := by decide +kernel
theorem dX9_bestPeriod_124 : decode cX9_bestPeriod 124 = .ok (.goto 5, 3) := by decide +kernel
theorem dX9_bestPeriod_127 : decode cX9_bestPeriod 127 = .ok (.iload 4, 2) := by decide +kernel
theorem dX9_bestPeriod_129 : decode cX9_bestPeriod 129 = .ok (.ireturn, 1) := by decide +kernel
theorem dX9_setDisc_0 : decode cX9_setDisc 0 = .ok (.iload_n 1, 1) := by decide +kernel
theorem dX9_setDisc_1 : decode cX9_setDisc 1 = .ok (.iconst 1, 1) := by decide +kernel
theorem dX9_setDisc_2 : decode cX9_setDisc 2 = .ok (.bipush 30, 2) := by decide +kernel
theorem dX9_setDisc_4 : decode cX9_setDisc 4 = .ok (.invokestatic 55, 3) := by decide +kernel
theorem dX9_setDisc_7 : decode cX9_setDisc 7 = .ok (.ifCond .eq 16, 3) := by decide +kernel
theorem dX9_setDisc_10 : decode cX9_setDisc 10 = .ok (.iload_n 2, 1) := by decide +kernel
theorem dX9_setDisc_11 : decode cX9_setDisc 11 = .ok (.iconst 0, 1) := by decide +kernel
theorem dX9_setDisc_12 : decode cX9_setDisc 12 = .ok (.iconst 1, 1) := by decide +kernel
theorem dX9_setDisc_13 : decode cX9_setDisc 13 = .ok (.iload_n 1, 1) := by decide +kernel
theorem dX9_setDisc_14 : decode cX9_setDisc 14 = .ok (.ishl, 1) := by decide +kernel
theorem dX9_setDisc_15 : decode cX9_setDisc 15 = .ok (.iconst 1, 1) := by decide +kernel
theorem dX9_setDisc_16 : decode cX9_setDisc 16 = .ok (.isub, 1) := by decide +kernel
theorem dX9_setDisc_17 : decode cX9_setDisc 17 = .ok (.invokestatic 55, 3) := by decide +kernel
theorem dX9_setDisc_20 : decode cX9_setDisc 20 = .ok (.ifCond .ne 7, 3) := by decide +kernel
theorem dX9_setDisc_23 : decode cX9_setDisc 23 = .ok (.sipush (-1001), 3) := by decide +kernel
theorem dX9_setDisc_26 : decode cX9_setDisc 26 = .ok (.ireturn, 1) := by decide +kernel
theorem dX9_setDisc_27 : decode cX9_setDisc 27 = .ok (.aload_n 0, 1) := by decide +kernel
theorem dX9_setDisc_28 : decode cX9_setDisc 28 = .ok (.invokevirtual 101, 3) := by decide +kernel
theorem dX9_setDisc_31 : decode cX9_setDisc 31 = .ok (.aload_n 0, 1) := by decide +kernel
theorem dX9_setDisc_32 : decode cX9_setDisc 32 = .ok (.getfield 7, 3) := by decide +kernel
theorem dX9_setDisc_35 : decode cX9_setDisc 35 = .ok (.bipush 94, 2) := by decide +kernel
theorem dX9_setDisc_37 : decode cX9_setDisc 37 = .ok (.iload_n 1, 1) := by decide +kernel
theorem dX9_setDisc_38 : decode cX9_setDisc 38 = .ok (.iastore, 1) := by decide +kernel
theorem dX9_setDisc_39 : decode cX9_setDisc 39 = .ok (.aload_n 0, 1) := by decide +kernel
theorem dX9_setDisc_40 : decode cX9_setDisc 40 = .ok (.getfield 7, 3) := by decide +kernel
theorem dX9_setDisc_43 : decode cX9_setDisc 43 = .ok (.bipush 95, 2) := by decide +kernel
theorem dX9_setDisc_45 : decode cX9_setDisc 45 = .ok (.iload_n 2, 1) := by decide +kernel
theorem dX9_setDisc_46 : decode cX9_setDisc 46 = .ok (.iastore, 1) := by decide +kernel
theorem dX9_setDisc_47 : decode cX9_setDisc 47 = .ok (.iconst 0, 1) := by decide +kernel
theorem dX9_setDisc_48 : decode cX9_setDisc 48 = .ok (.istore_n 3, 1) := by decide +kernel
theorem dX9_setDisc_49 : decode cX9_setDisc 49 = .ok (.iconst 0, 1) := by decide +kernel
theorem dX9_setDisc_50 : decode cX9_setDisc 50 = .ok (.istore 4, 2) := by decide +kernel
theorem dX9_setDisc_52 : decode cX9_setDisc 52 = .ok (.iload 4, 2) := by decide +kernel
theorem dX9_setDisc_54 : decode cX9_setDisc 54 = .ok (.iload_n 1, 1) := by decide +kernel
theorem dX9_setDisc_55 : decode cX9_setDisc 55 = .ok (.if_icmp .ge 18, 3) := by decide +kernel
theorem dX9_setDisc_58 : decode cX9_setDisc 58 = .ok (.iload_n 3, 1) := by decide +kernel
theorem dX9_setDisc_59 : decode cX9_setDisc 59 = .ok (.iload_n 2, 1) := by decide +kernel
theorem dX9_setDisc_60 : decode cX9_setDisc 60 = .ok (.iload 4, 2) := by decide +kernel
theorem dX9_setDisc_62 : decode cX9_setDisc 62 = .ok (.ishr, 1) := by decide +kernel
theorem dX9_setDisc_63 : decode cX9_setDisc 63 = .ok (.iconst 1, 1) := by decide +kernel
theorem dX9_setDisc_64 : decode cX9_setDisc 64 = .ok (.iand, 1) := by decide +kernel
theorem dX9_setDisc_65 : decode cX9_setDisc 65 = .ok (.iadd, 1) := by decide +kernel
theorem dX9_setDisc_66 : decode cX9_setDisc 66 = .ok (.istore_n 3, 1) := by decide +kernel
theorem dX9_setDisc_67 : decode cX9_setDisc 67 = .ok (.iinc 4 1, 3) := by decide +kernel
theorem dX9_setDisc_70 : decode cX9_setDisc 70 = .ok (.goto (-18), 3) := by decide +kernel
theorem dX9_setDisc_73 : decode cX9_setDisc 73 = .ok (.iload_n 3, 1) := by decide +kernel
theorem dX9_setDisc_74 : decode cX9_setDisc 74 = .ok (.ireturn, 1) := by decide +kernel
theorem dX9_turnDisc_0 : decode cX9_turnDisc 0 = .ok (.iload_n 1, 1) := by decide +kernel
theorem dX9_turnDisc_1 : decode cX9_turnDisc 1 = .ok (.iconst 0, 1) := by decide +kernel
theorem dX9_turnDisc_2 : decode cX9_turnDisc 2 = .ok (.bipush 29, 2) := by decide +kernel
theorem dX9_turnDisc_4 : decode cX9_turnDisc 4 = .ok (.invokestatic 55, 3) := by decide +kernel
theorem dX9_turnDisc_7 : decode cX9_turnDisc 7 = .ok (.ifCond .eq 16, 3) := by decide +kernel
theorem dX9_turnDisc_10 : decode cX9_turnDisc 10 = .ok (.iload_n 2, 1) := by decide +kernel
theorem dX9_turnDisc_11 : decode cX9_turnDisc 11 = .ok (.sipush (-1000), 3) := by decide +kernel
theorem dX9_turnDisc_14 : decode cX9_turnDisc 14 = .ok (.sipush 1000, 3) := by decide +kernel
theorem dX9_turnDisc_17 : decode cX9_turnDisc 17 = .ok (.invokestatic 55, 3) := by decide +kernel
theorem dX9_turnDisc_20 : decode cX9_turnDisc 20 = .ok (.ifCond .ne 7, 3) := by decide +kernel
theorem dX9_turnDisc_23 : decode cX9_turnDisc 23 = .ok (.sipush (-1001), 3) := by decide +kernel
theorem dX9_turnDisc_26 : decode cX9_turnDisc 26 = .ok (.ireturn, 1) := by decide +kernel
theorem dX9_turnDisc_27 : decode cX9_turnDisc 27 = .ok (.aload_n 0, 1) := by decide +kernel
theorem dX9_turnDisc_28 : decode cX9_turnDisc 28 = .ok (.invokevirtual 101, 3) := by decide +kernel
theorem dX9_turnDisc_31 : decode cX9_turnDisc 31 = .ok (.aload_n 0, 1) := by decide +kernel
theorem dX9_turnDisc_32 : decode cX9_turnDisc 32 = .ok (.getfield 7, 3) := by decide +kernel
theorem dX9_turnDisc_35 : decode cX9_turnDisc 35 = .ok (.bipush 97, 2) := by decide +kernel
theorem dX9_turnDisc_37 : decode cX9_turnDisc 37 = .ok (.iaload, 1) := by decide +kernel
theorem dX9_turnDisc_38 : decode cX9_turnDisc 38 = .ok (.istore_n 3, 1) := by decide +kernel
theorem dX9_turnDisc_39 : decode cX9_turnDisc 39 = .ok (.aload_n 0, 1) := by decide +kernel
theorem dX9_turnDisc_40 : decode cX9_turnDisc 40 = .ok (.getfield 7, 3) := by decide +kernel
theorem dX9_turnDisc_43 : decode cX9_turnDisc 43 = .ok (.bipush 96, 2) := by decide +kernel
theorem dX9_turnDisc_45 : decode cX9_turnDisc 45 = .ok (.iload_n 1, 1) := by decide +kernel
theorem dX9_turnDisc_46 : decode cX9_turnDisc 46 = .ok (.iastore, 1) := by decide +kernel
theorem dX9_turnDisc_47 : decode cX9_turnDisc 47 = .ok (.aload_n 0, 1) := by decide +kernel
theorem dX9_turnDisc_48 : decode cX9_turnDisc 48 = .ok (.getfield 7, 3) := by decide +kernel
theorem dX9_turnDisc_51 : decode cX9_turnDisc 51 = .ok (.bipush 97, 2) := by decide +kernel
theorem dX9_turnDisc_53 : decode cX9_turnDisc 53 = .ok (.iload_n 2, 1) := by decide +kernel
theorem dX9_turnDisc_54 : decode cX9_turnDisc 54 = .ok (.iastore, 1) := by decide +kernel
theorem dX9_turnDisc_55 : decode cX9_turnDisc 55 = .ok (.iload_n 3, 1) := by decide +kernel
theorem dX9_turnDisc_56 : decode cX9_turnDisc 56 = .ok (.ireturn, 1) := by decide +kernel
theorem dX9_isOpen_0 : decode cX9_isOpen 0 = .ok (.aload_n 0, 1) := by decide +kernel
theorem dX9_isOpen_1 : decode cX9_isOpen 1 = .ok (.getfield 7, 3) := by decide +kernel
theorem dX9_isOpen_4 : decode cX9_isOpen 4 = .ok (.bipush 94, 2) := by decide +kernel
theorem dX9_isOpen_6 : decode cX9_isOpen 6 = .ok (.iaload, 1) := by decide +kernel
theorem dX9_isOpen_7 : decode cX9_isOpen 7 = .ok (.istore_n 2, 1) := by decide +kernel
theorem dX9_isOpen_8 : decode cX9_isOpen 8 = .ok (.iload_n 2, 1) := by decide +kernel
theorem dX9_isOpen_9 : decode cX9_isOpen 9 = .ok (.aload_n 0, 1) := by decide +kernel
theorem dX9_isOpen_10 : decode cX9_isOpen 10 = .ok (.getfield 7, 3) := by decide +kernel
theorem dX9_isOpen_13 : decode cX9_isOpen 13 = .ok (.bipush 96, 2) := by decide +kernel
theorem dX9_isOpen_15 : decode cX9_isOpen 15 = .ok (.iaload, 1) := by decide +kernel
theorem dX9_isOpen_16 : decode cX9_isOpen 16 = .ok (.aload_n 0, 1) := by decide +kernel
theorem dX9_isOpen_17 : decode cX9_isOpen 17 = .ok (.getfield 7, 3) := by decide +kernel
theorem dX9_isOpen_20 : decode cX9_isOpen 20 = .ok (.bipush 97, 2) := by decide +kernel
theorem dX9_isOpen_22 : decode cX9_isOpen 22 = .ok (.iaload, 1) := by decide +kernel
theorem dX9_isOpen_23 : decode cX9_isOpen 23 = .ok (.iload_n 1, 1) := by decide +kernel
theorem dX9_isOpen_24 : decode cX9_isOpen 24 = .ok (.imul, 1) := by decide +kernel
theorem dX9_isOpen_25 : decode cX9_isOpen 25 = .ok (.iadd, 1) := by decide +kernel
theorem dX9_isOpen_26 : decode cX9_isOpen 26 = .ok (.iload_n 2, 1) := by decide +kernel
theorem dX9_isOpen_27 : decode cX9_isOpen 27 = .ok (.invokestatic 47, 3) := by decide +kernel
theorem dX9_isOpen_30 : decode cX9_isOpen 30 = .ok (.isub, 1) := by decide +kernel
theorem dX9_isOpen_31 : decode cX9_isOpen 31 = .ok (.iload_n 2, 1) := by decide +kernel
theorem dX9_isOpen_32 : decode cX9_isOpen 32 = .ok (.irem, 1) := by decide +kernel
theorem dX9_isOpen_33 : decode cX9_isOpen 33 = .ok (.istore_n 3, 1) := by decide +kernel
theorem dX9_isOpen_34 : decode cX9_isOpen 34 = .ok (.aload_n 0, 1) := by decide +kernel
theorem dX9_isOpen_35 : decode cX9_isOpen 35 = .ok (.getfield 7, 3) := by decide +kernel
theorem dX9_isOpen_38 : decode cX9_isOpen 38 = .ok (.bipush 95, 2) := by decide +kernel
theorem dX9_isOpen_40 : decode cX9_isOpen 40 = .ok (.iaload, 1) := by decide +kernel
theorem dX9_isOpen_41 : decode cX9_isOpen 41 = .ok (.iload_n 3, 1) := by decide +kernel
theorem dX9_isOpen_42 : decode cX9_isOpen 42 = .ok (.ishr, 1) := by decide +kernel
theorem dX9_isOpen_43 : decode cX9_isOpen 43 = .ok (.iconst 1, 1) := by decide +kernel
theorem dX9_isOpen_44 : decode cX9_isOpen 44 = .ok (.iand, 1) := by decide +kernel
theorem dX9_isOpen_45 : decode cX9_isOpen 45 = .ok (.iconst 1, 1) := by decide +kernel
theorem dX9_isOpen_46 : decode cX9_isOpen 46 = .ok (.if_icmp .ne 7, 3) := by decide +kernel
theorem dX9_isOpen_49 : decode cX9_isOpen 49 = .ok (.iconst 1, 1) := by decide +kernel
theorem dX9_isOpen_50 : decode cX9_isOpen 50 = .ok (.goto 4, 3) := by decide +kernel
theorem dX9_isOpen_53 : decode cX9_isOpen 53 = .ok (.iconst 0, 1) := by decide +kernel
theorem dX9_isOpen_54 : decode cX9_isOpen 54 = .ok (.ireturn, 1) := by decide +kernel
theorem dX9_isSeen_0 : decode cX9_isSeen 0 = .ok (.iload_n 1, 1) := by decide +kernel
theorem dX9_isSeen_1 : decode cX9_isSeen 1 = .ok (.invokestatic 114, 3) := by decide +kernel
theorem dX9_isSeen_4 : decode cX9_isSeen 4 = .ok (.ifCond .ne 9, 3) := by decide +kernel
theorem dX9_isSeen_7 : decode cX9_isSeen 7 = .ok (.sipush (-1001), 3) := by decide +kernel
theorem dX9_isSeen_10 : decode cX9_isSeen 10 = .ok (.goto 16, 3) := by decide +kernel
theorem dX9_isSeen_13 : decode cX9_isSeen 13 = .ok (.aload_n 0, 1) := by decide +kernel
theorem dX9_isSeen_14 : decode cX9_isSeen 14 = .ok (.iload_n 1, 1) := by decide +kernel
theorem dX9_isSeen_15 : decode cX9_isSeen 15 = .ok (.invokevirtual 166, 3) := by decide +kernel
theorem dX9_isSeen_18 : decode cX9_isSeen 18 = .ok (.ifCond .eq 7, 3) := by decide +kernel
theorem dX9_isSeen_21 : decode cX9_isSeen 21 = .ok (.iconst 1, 1) := by decide +kernel
theorem dX9_isSeen_22 : decode cX9_isSeen 22 = .ok (.goto 4, 3) := by decide +kernel
theorem dX9_isSeen_25 : decode cX9_isSeen 25 = .ok (.iconst 0, 1) := by decide +kernel
theorem dX9_isSeen_26 : decode cX9_isSeen 26 = .ok (.ireturn, 1) := by decide +kernel
theorem dX9_goesTo_0 : decode cX9_goesTo 0 = .ok (.iconst 0, 1) := by decide +kernel
theorem dX9_goesTo_1 : decode cX9_goesTo 1 = .ok (.istore_n 2, 1) := by decide +kernel
theorem dX9_goesTo_2 : decode cX9_goesTo 2 = .ok (.iconst 0, 1) := by decide +kernel
theorem dX9_goesTo_3 : decode cX9_goesTo 3 = .ok (.istore_n 3, 1) := by decide +kernel
theorem dX9_goesTo_4 : decode cX9_goesTo 4 = .ok (.iconst 0, 1) := by decide +kernel
theorem dX9_goesTo_5 : decode cX9_goesTo 5 = .ok (.istore 4, 2) := by decide +kernel
theorem dX9_goesTo_7 : decode cX9_goesTo 7 = .ok (.iload 4, 2) := by decide +kernel
theorem dX9_goesTo_9 : decode cX9_goesTo 9 = .ok (.sipush 1000, 3) := by decide +kernel
theorem dX9_goesTo_12 : decode cX9_goesTo 12 = .ok (.if_icmp .gt 65, 3) := by decide +kernel
theorem dX9_goesTo_15 : decode cX9_goesTo 15 = .ok (.aload_n 0, 1) := by decide +kernel
theorem dX9_goesTo_16 : decode cX9_goesTo 16 = .ok (.iload 4, 2) := by decide +kernel
theorem dX9_goesTo_18 : decode cX9_goesTo 18 = .ok (.invokevirtual 166, 3) := by decide +kernel
theorem dX9_goesTo_21 : decode cX9_goesTo 21 = .ok (.istore 5, 2) := by decide +kernel
theorem dX9_goesTo_23 : decode cX9_goesTo 23 = .ok (.iload 5, 2) := by decide +kernel
theorem dX9_goesTo_25 : decode cX9_goesTo 25 = .ok (.ifCond .eq 25, 3) := by decide +kernel
theorem dX9_goesTo_28 : decode cX9_goesTo 28 = .ok (.iload_n 3, 1) := by decide +kernel
theorem dX9_goesTo_29 : decode cX9_goesTo 29 = .ok (.ifCond .ne 21, 3) := by decide +kernel
theorem dX9_goesTo_32 : decode cX9_goesTo 32 = .ok (.iload_n 2, 1) := by decide +kernel
theorem dX9_goesTo_33 : decode cX9_goesTo 33 = .ok (.iconst 1, 1) := by decide +kernel
theorem dX9_goesTo_34 : decode cX9_goesTo 34 = .ok (.isub, 1) := by decide +kernel
theorem dX9_goesTo_35 : decode cX9_goesTo 35 = .ok (.iload_n 1, 1) := by decide +kernel
theorem dX9_goesTo_36 : decode cX9_goesTo 36 = .ok (.if_icmp .ne 5, 3) := by decide +kernel
theorem dX9_goesTo_39 : decode cX9_goesTo 39 = .ok (.iload_n 2, 1) := by decide +kernel
theorem dX9_goesTo_40 : decode cX9_goesTo 40 = .ok (.ireturn, 1) := by decide +kernel
theorem dX9_goesTo_41 : decode cX9_goesTo 41 = .ok (.iinc 2 1, 3) := by decide +kernel
theorem dX9_goesTo_44 : decode cX9_goesTo 44 = .ok (.aload_n 0, 1) := by decide +kernel
theorem dX9_goesTo_45 : decode cX9_goesTo 45 = .ok (.iload 4, 2) := by decide +kernel
theorem dX9_goesTo_47 : decode cX9_goesTo 47 = .ok (.putfield 169, 3) := by decide +kernel
theorem dX9_goesTo_50 : decode cX9_goesTo 50 = .ok (.aload_n 0, 1) := by decide +kernel
theorem dX9_goesTo_51 : decode cX9_goesTo 51 = .ok (.iload 5, 2) := by decide +kernel
theorem dX9_goesTo_53 : decode cX9_goesTo 53 = .ok (.ifCond .eq 8, 3) := by decide +kernel
theorem dX9_goesTo_56 : decode cX9_goesTo 56 = .ok (.iload 4, 2) := by decide +kernel
theorem dX9_goesTo_58 : decode cX9_goesTo 58 = .ok (.goto 7, 3) := by decide +kernel
theorem dX9_goesTo_61 : decode cX9_goesTo 61 = .ok (.aload_n 0, 1) := by decide +kernel
theorem dX9_goesTo_62 : decode cX9_goesTo 62 = .ok (.getfield 172, 3) := by decide +kernel
theorem dX9_goesTo_65 : decode cX9_goesTo 65 = .ok (.putfield 172, 3) := by decide +kernel
theorem dX9_goesTo_68 : decode cX9_goesTo 68 = .ok (.iload 5, 2) := by decide +kernel
theorem dX9_goesTo_70 : decode cX9_goesTo 70 = .ok (.istore_n 3, 1) := by decide +kernel
theorem dX9_goesTo_71 : decode cX9_goesTo 71 = .ok (.iinc 4 1, 3) := by decide +kernel
theorem dX9_goesTo_74 : decode cX9_goesTo 74 = .ok (.goto (-67), 3) := by decide +kernel
theorem dX9_goesTo_77 : decode cX9_goesTo 77 = .ok (.iload_n 2, 1) := by decide +kernel
theorem dX9_goesTo_78 : decode cX9_goesTo 78 = .ok (.ireturn, 1) := by decide +kernel
theorem dX9_smearAt_0 : decode cX9_smearAt 0 = .ok (.iconst 0, 1) := by decide +kernel
theorem dX9_smearAt_1 : decode cX9_smearAt 1 = .ok (.istore_n 2, 1) := by decide +kernel
theorem dX9_smearAt_2 : decode cX9_smearAt 2 = .ok (.aload_n 0, 1) := by decide +kernel
theorem dX9_smearAt_3 : decode cX9_smearAt 3 = .ok (.getfield 169, 3) := by decide +kernel
theorem dX9_smearAt_6 : decode cX9_smearAt 6 = .ok (.istore_n 3, 1) := by decide +kernel
theorem dX9_smearAt_7 : decode cX9_smearAt 7 = .ok (.iload_n 3, 1) := by decide +kernel
theorem dX9_smearAt_8 : decode cX9_smearAt 8 = .ok (.aload_n 0, 1) := by decide +kernel
theorem dX9_smearAt_9 : decode cX9_smearAt 9 = .ok (.getfield 172, 3) := by decide +kernel
theorem dX9_smearAt_12 : decode cX9_smearAt 12 = .ok (.if_icmp .gt 35, 3) := by decide +kernel
theorem dX9_smearAt_15 : decode cX9_smearAt 15 = .ok (.aload_n 0, 1) := by decide +kernel
theorem dX9_smearAt_16 : decode cX9_smearAt 16 = .ok (.iload_n 3, 1) := by decide +kernel
theorem dX9_smearAt_17 : decode cX9_smearAt 17 = .ok (.iload_n 1, 1) := by decide +kernel
theorem dX9_smearAt_18 : decode cX9_smearAt 18 = .ok (.invokevirtual 123, 3) := by decide +kernel
theorem dX9_smearAt_21 : decode cX9_smearAt 21 = .ok (.istore 4, 2) := by decide +kernel
theorem dX9_smearAt_23 : decode cX9_smearAt 23 = .ok (.iload_n 2, 1) := by decide +kernel
theorem dX9_smearAt_24 : decode cX9_smearAt 24 = .ok (.iload 4, 2) := by decide +kernel
theorem dX9_smearAt_26 : decode cX9_smearAt 26 = .ok (.ifCond .le 12, 3) := by decide +kernel
theorem dX9_smearAt_29 : decode cX9_smearAt 29 = .ok (.iconst 1, 1) := by decide +kernel
theorem dX9_smearAt_30 : decode cX9_smearAt 30 = .ok (.iload 4, 2) := by decide +kernel
theorem dX9_smearAt_32 : decode cX9_smearAt 32 = .ok (.iconst 1, 1) := by decide +kernel
theorem dX9_smearAt_33 : decode cX9_smearAt 33 = .ok (.isub, 1) := by decide +kernel
theorem dX9_smearAt_34 : decode cX9_smearAt 34 = .ok (.ishl, 1) := by decide +kernel
theorem dX9_smearAt_35 : decode cX9_smearAt 35 = .ok (.goto 4, 3) := by decide +kernel
theorem dX9_smearAt_38 : decode cX9_smearAt 38 = .ok (.iconst 0, 1) := by decide +kernel
theorem dX9_smearAt_39 : decode cX9_smearAt 39 = .ok (.ior, 1) := by decide +kernel
theorem dX9_smearAt_40 : decode cX9_smearAt 40 = .ok (.istore_n 2, 1) := by decide +kernel
theorem dX9_smearAt_41 : decode cX9_smearAt 41 = .ok (.iinc 3 1, 3) := by decide +kernel
theorem dX9_smearAt_44 : decode cX9_smearAt 44 = .ok (.goto (-37), 3) := by decide +kernel
theorem dX9_smearAt_47 : decode cX9_smearAt 47 = .ok (.iload_n 2, 1) := by decide +kernel
theorem dX9_smearAt_48 : decode cX9_smearAt 48 = .ok (.ireturn, 1) := by decide +kernel
theorem dX9_smeared_0 : decode cX9_smeared 0 = .ok (.iconst 0, 1) := by decide +kernel
theorem dX9_smeared_1 : decode cX9_smeared 1 = .ok (.istore_n 1, 1) := by decide +kernel
theorem dX9_smeared_2 : decode cX9_smeared 2 = .ok (.iconst 0, 1) := by decide +kernel
theorem dX9_smeared_3 : decode cX9_smeared 3 = .ok (.istore_n 2, 1) := by decide +kernel
theorem dX9_smeared_4 : decode cX9_smeared 4 = .ok (.iload_n 2, 1) := by decide +kernel
theorem dX9_smeared_5 : decode cX9_smeared 5 = .ok (.aload_n 0, 1) := by decide +kernel
theorem dX9_smeared_6 : decode cX9_smeared 6 = .ok (.invokevirtual 37, 3) := by decide +kernel
theorem dX9_smeared_9 : decode cX9_smeared 9 = .ok (.if_icmp .ge 31, 3) := by decide +kernel
theorem dX9_smeared_12 : decode cX9_smeared 12 = .ok (.aload_n 0, 1) := by decide +kernel
theorem dX9_smeared_13 : decode cX9_smeared 13 = .ok (.iload_n 2, 1) := by decide +kernel
theorem dX9_smeared_14 : decode cX9_smeared 14 = .ok (.invokevirtual 175, 3) := by decide +kernel
theorem dX9_smeared_17 : decode cX9_smeared 17 = .ok (.istore_n 3, 1) := by decide +kernel
theorem dX9_smeared_18 : decode cX9_smeared 18 = .ok (.iload_n 1, 1) := by decide +kernel
theorem dX9_smeared_19 : decode cX9_smeared 19 = .ok (.iload_n 3, 1) := by decide +kernel
theorem dX9_smeared_20 : decode cX9_smeared 20 = .ok (.iload_n 3, 1) := by decide +kernel
theorem dX9_smeared_21 : decode cX9_smeared 21 = .ok (.iconst 1, 1) := by decide +kernel
theorem dX9_smeared_22 : decode cX9_smeared 22 = .ok (.isub, 1) := by decide +kernel
theorem dX9_smeared_23 : decode cX9_smeared 23 = .ok (.iand, 1) := by decide +kernel
theorem dX9_smeared_24 : decode cX9_smeared 24 = .ok (.ifCond .eq 7, 3) := by decide +kernel
theorem dX9_smeared_27 : decode cX9_smeared 27 = .ok (.iconst 1, 1) := by decide +kernel
theorem dX9_smeared_28 : decode cX9_smeared 28 = .ok (.goto 4, 3) := by decide +kernel
theorem dX9_smeared_31 : decode cX9_smeared 31 = .ok (.iconst 0, 1) := by decide +kernel
theorem dX9_smeared_32 : decode cX9_smeared 32 = .ok (.iadd, 1) := by decide +kernel
theorem dX9_smeared_33 : decode cX9_smeared 33 = .ok (.istore_n 1, 1) := by decide +kernel
theorem dX9_smeared_34 : decode cX9_smeared 34 = .ok (.iinc 2 1, 3) := by decide +kernel
theorem dX9_smeared_37 : decode cX9_smeared 37 = .ok (.goto (-33), 3) := by decide +kernel
theorem dX9_smeared_40 : decode cX9_smeared 40 = .ok (.iload_n 1, 1) := by decide +kernel
theorem dX9_smeared_41 : decode cX9_smeared 41 = .ok (.ireturn, 1) := by decide +kernel
theorem dX9_isStill_0 : decode cX9_isStill 0 = .ok (.aload_n 0, 1) := by decide +kernel
theorem dX9_isStill_1 : decode cX9_isStill 1 = .ok (.invokevirtual 41, 3) := by decide +kernel
theorem dX9_isStill_4 : decode cX9_isStill 4 = .ok (.istore_n 1, 1) := by decide +kernel
theorem dX9_isStill_5 : decode cX9_isStill 5 = .ok (.iconst 1, 1) := by decide +kernel
theorem dX9_isStill_6 : decode cX9_isStill 6 = .ok (.istore_n 2, 1) := by decide +kernel
theorem dX9_isStill_7 : decode cX9_isStill 7 = .ok (.aload_n 0, 1) := by decide +kernel
theorem dX9_isStill_8 : decode cX9_isStill 8 = .ok (.getfield 169, 3) := by decide +kernel
theorem dX9_isStill_11 : decode cX9_isStill 11 = .ok (.istore_n 3, 1) := by decide +kernel
theorem dX9_isStill_12 : decode cX9_isStill 12 = .ok (.iload_n 3, 1) := by decide +kernel
theorem dX9_isStill_13 : decode cX9_isStill 13 = .ok (.aload_n 0, 1) := by decide +kernel
theorem dX9_isStill_14 : decode cX9_isStill 14 = .ok (.getfield 172, 3) := by decide +kernel
theorem dX9_isStill_17 : decode cX9_isStill 17 = .ok (.if_icmp .gt 40, 3) := by decide +kernel
theorem dX9_isStill_20 : decode cX9_isStill 20 = .ok (.iload_n 2, 1) := by decide +kernel
theorem dX9_isStill_21 : decode cX9_isStill 21 = .ok (.ifCond .eq 28, 3) := by decide +kernel
theorem dX9_isStill_24 : decode cX9_isStill 24 = .ok (.aload_n 0, 1) := by decide +kernel
theorem dX9_isStill_25 : decode cX9_isStill 25 = .ok (.getfield 13, 3) := by decide +kernel
theorem dX9_isStill_28 : decode cX9_isStill 28 = .ok (.iload_n 3, 1) := by decide +kernel
theorem dX9_isStill_29 : decode cX9_isStill 29 = .ok (.iaload, 1) := by decide +kernel
theorem dX9_isStill_30 : decode cX9_isStill 30 = .ok (.aload_n 0, 1) := by decide +kernel
theorem dX9_isStill_31 : decode cX9_isStill 31 = .ok (.getfield 13, 3) := by decide +kernel
theorem dX9_isStill_34 : decode cX9_isStill 34 = .ok (.aload_n 0, 1) := by decide +kernel
theorem dX9_isStill_35 : decode cX9_isStill 35 = .ok (.getfield 169, 3) := by decide +kernel
theorem dX9_isStill_38 : decode cX9_isStill 38 = .ok (.iaload, 1) := by decide +kernel
theorem dX9_isStill_39 : decode cX9_isStill 39 = .ok (.isub, 1) := by decide +kernel
theorem dX9_isStill_40 : decode cX9_isStill 40 = .ok (.iload_n 1, 1) := by decide +kernel
theorem dX9_isStill_41 : decode cX9_isStill 41 = .ok (.irem, 1) := by decide +kernel
theorem dX9_isStill_42 : decode cX9_isStill 42 = .ok (.ifCond .ne 7, 3) := by decide +kernel
theorem dX9_isStill_45 : decode cX9_isStill 45 = .ok (.iconst 1, 1) := by decide +kernel
theorem dX9_isStill_46 : decode cX9_isStill 46 = .ok (.goto 4, 3) := by decide +kernel
theorem dX9_isStill_49 : decode cX9_isStill 49 = .ok (.iconst 0, 1) := by decide +kernel
theorem dX9_isStill_50 : decode cX9_isStill 50 = .ok (.istore_n 2, 1) := by decide +kernel
theorem dX9_isStill_51 : decode cX9_isStill 51 = .ok (.iinc 3 1, 3) := by decide +kernel
theorem dX9_isStill_54 : decode cX9_isStill 54 = .ok (.goto (-42), 3) := by decide +kernel
theorem dX9_isStill_57 : decode cX9_isStill 57 = .ok (.iload_n 2, 1) := by decide +kernel
theorem dX9_isStill_58 : decode cX9_isStill 58 = .ok (.ireturn, 1) := by decide +kernel
theorem dX9_opening_0 : decode cX9_opening 0 = .ok (.iload_n 1, 1) := by decide +kernel
theorem dX9_opening_1 : decode cX9_opening 1 = .ok (.ifCond .lt 12, 3) := by decide +kernel
theorem dX9_opening_4 : decode cX9_opening 4 = .ok (.iload_n 2, 1) := by decide +kernel
theorem dX9_opening_5 : decode cX9_opening 5 = .ok (.iconst 0, 1) := by decide +kernel
theorem dX9_opening_6 : decode cX9_opening 6 = .ok (.iconst 3, 1) := by decide +kernel
theorem dX9_opening_7 : decode cX9_opening 7 = .ok (.invokestatic 55, 3) := by decide +kernel
theorem dX9_opening_10 : decode cX9_opening 10 = .ok (.ifCond .ne 7, 3) := by decide +kernel
theorem dX9_opening_13 : decode cX9_opening 13 = .ok (.sipush (-1001), 3) := by decide +kernel
theorem dX9_opening_16 : decode cX9_opening 16 = .ok (.ireturn, 1) := by decide +kernel
theorem dX9_opening_17 : decode cX9_opening 17 = .ok (.aload_n 0, 1) := by decide +kernel
theorem dX9_opening_18 : decode cX9_opening 18 = .ok (.iload_n 1, 1) := by decide +kernel
theorem dX9_opening_19 : decode cX9_opening 19 = .ok (.invokevirtual 178, 3) := by decide +kernel
theorem dX9_opening_22 : decode cX9_opening 22 = .ok (.iload_n 1, 1) := by decide +kernel
theorem dX9_opening_23 : decode cX9_opening 23 = .ok (.if_icmp .gt 7, 3) := by decide +kernel
theorem dX9_opening_26 : decode cX9_opening 26 = .ok (.sipush (-1004), 3) := by decide +kernel
theorem dX9_opening_29 : decode cX9_opening 29 = .ok (.ireturn, 1) := by decide +kernel
theorem dX9_opening_30 : decode cX9_opening 30 = .ok (.aload_n 0, 1) := by decide +kernel
theorem dX9_opening_31 : decode cX9_opening 31 = .ok (.invokevirtual 120, 3) := by decide +kernel
theorem dX9_opening_34 : decode cX9_opening 34 = .ok (.iload_n 2, 1) := by decide +kernel
theorem dX9_opening_35 : decode cX9_opening 35 = .ok (.tableswitch 47 0 2 #[25, 30, 42], 25) := by decide +kernel
theorem dX9_opening_60 : decode cX9_opening 60 = .ok (.aload_n 0, 1) := by decide +kernel
theorem dX9_opening_61 : decode cX9_opening 61 = .ok (.getfield 169, 3) := by decide +kernel
theorem dX9_opening_64 : decode cX9_opening 64 = .ok (.ireturn, 1) := by decide +kernel
theorem dX9_opening_65 : decode cX9_opening 65 = .ok (.aload_n 0, 1) := by decide +kernel
theorem dX9_opening_66 : decode cX9_opening 66 = .ok (.getfield 172, 3) := by decide +kernel
theorem dX9_opening_69 : decode cX9_opening 69 = .ok (.aload_n 0, 1) := by decide +kernel
theorem dX9_opening_70 : decode cX9_opening 70 = .ok (.getfield 169, 3) := by decide +kernel
theorem dX9_opening_73 : decode cX9_opening 73 = .ok (.isub, 1) := by decide +kernel
theorem dX9_opening_74 : decode cX9_opening 74 = .ok (.iconst 1, 1) := by decide +kernel
theorem dX9_opening_75 : decode cX9_opening 75 = .ok (.iadd, 1) := by decide +kernel
theorem dX9_opening_76 : decode cX9_opening 76 = .ok (.ireturn, 1) := by decide +kernel
theorem dX9_opening_77 : decode cX9_opening 77 = .ok (.aload_n 0, 1) := by decide +kernel
theorem dX9_opening_78 : decode cX9_opening 78 = .ok (.invokevirtual 181, 3) := by decide +kernel
theorem dX9_opening_81 : decode cX9_opening 81 = .ok (.ireturn, 1) := by decide +kernel
theorem dX9_opening_82 : decode cX9_opening 82 = .ok (.aload_n 0, 1) := by decide +kernel
theorem dX9_opening_83 : decode cX9_opening 83 = .ok (.invokevirtual 184, 3) := by decide +kernel
theorem dX9_opening_86 : decode cX9_opening 86 = .ok (.ifCond .eq 7, 3) := by decide +kernel
theorem dX9_opening_89 : decode cX9_opening 89 = .ok (.iconst 1, 1) := by decide +kernel
theorem dX9_opening_90 : decode cX9_opening 90 = .ok (.goto 4, 3) := by decide +kernel
theorem dX9_opening_93 : decode cX9_opening 93 = .ok (.iconst 0, 1) := by decide +kernel
theorem dX9_opening_94 : decode cX9_opening 94 = .ok (.ireturn, 1) := by decide +kernel
theorem dX9_smear_0 : decode cX9_smear 0 = .ok (.iload_n 1, 1) := by decide +kernel
theorem dX9_smear_1 : decode cX9_smear 1 = .ok (.ifCond .lt 11, 3) := by decide +kernel
theorem dX9_smear_4 : decode cX9_smear 4 = .ok (.aload_n 0, 1) := by decide +kernel
theorem dX9_smear_5 : decode cX9_smear 5 = .ok (.iload_n 2, 1) := by decide +kernel
theorem dX9_smear_6 : decode cX9_smear 6 = .ok (.invokevirtual 104, 3) := by decide +kernel
theorem dX9_smear_9 : decode cX9_smear 9 = .ok (.ifCond .ne 7, 3) := by decide +kernel
theorem dX9_smear_12 : decode cX9_smear 12 = .ok (.sipush (-1001), 3) := by decide +kernel
theorem dX9_smear_15 : decode cX9_smear 15 = .ok (.ireturn, 1) := by decide +kernel
theorem dX9_smear_16 : decode cX9_smear 16 = .ok (.aload_n 0, 1) := by decide +kernel
theorem dX9_smear_17 : decode cX9_smear 17 = .ok (.iload_n 1, 1) := by decide +kernel
theorem dX9_smear_18 : decode cX9_smear 18 = .ok (.invokevirtual 178, 3) := by decide +kernel
theorem dX9_smear_21 : decode cX9_smear 21 = .ok (.iload_n 1, 1) := by decide +kernel
theorem dX9_smear_22 : decode cX9_smear 22 = .ok (.if_icmp .gt 7, 3) := by decide +kernel
theorem dX9_smear_25 : decode cX9_smear 25 = .ok (.sipush (-1004), 3) := by decide +kernel
theorem dX9_smear_28 : decode cX9_smear 28 = .ok (.ireturn, 1) := by decide +kernel
theorem dX9_smear_29 : decode cX9_smear 29 = .ok (.aload_n 0, 1) := by decide +kernel
theorem dX9_smear_30 : decode cX9_smear 30 = .ok (.invokevirtual 120, 3) := by decide +kernel
theorem dX9_smear_33 : decode cX9_smear 33 = .ok (.aload_n 0, 1) := by decide +kernel
theorem dX9_smear_34 : decode cX9_smear 34 = .ok (.iload_n 2, 1) := by decide +kernel
theorem dX9_smear_35 : decode cX9_smear 35 = .ok (.invokevirtual 175, 3) := by decide +kernel
theorem dX9_smear_38 : decode cX9_smear 38 = .ok (.ireturn, 1) := by decide +kernel
theorem dX9_marks_0 : decode cX9_marks 0 = .ok (.iconst 0, 1) := by decide +kernel
theorem dX9_marks_1 : decode cX9_marks 1 = .ok (.istore_n 1, 1) := by decide +kernel
theorem dX9_marks_2 : decode cX9_marks 2 = .ok (.iconst 0, 1) := by decide +kernel
theorem dX9_marks_3 : decode cX9_marks 3 = .ok (.istore_n 2, 1) := by decide +kernel
theorem dX9_marks_4 : decode cX9_marks 4 = .ok (.iload_n 2, 1) := by decide +kernel
theorem dX9_marks_5 : decode cX9_marks 5 = .ok (.aload_n 0, 1) := by decide +kernel
theorem dX9_marks_6 : decode cX9_marks 6 = .ok (.invokevirtual 37, 3) := by decide +kernel
theorem dX9_marks_9 : decode cX9_marks 9 = .ok (.if_icmp .ge 28, 3) := by decide +kernel
theorem dX9_marks_12 : decode cX9_marks 12 = .ok (.iload_n 1, 1) := by decide +kernel
theorem dX9_marks_13 : decode cX9_marks 13 = .ok (.aload_n 0, 1) := by decide +kernel
theorem dX9_marks_14 : decode cX9_marks 14 = .ok (.getfield 7, 3) := by decide +kernel
theorem dX9_marks_17 : decode cX9_marks 17 = .ok (.iconst 1, 1) := by decide +kernel
theorem dX9_marks_18 : decode cX9_marks 18 = .ok (.iload_n 2, 1) := by decide +kernel
theorem dX9_marks_19 : decode cX9_marks 19 = .ok (.iadd, 1) := by decide +kernel
theorem dX9_marks_20 : decode cX9_marks 20 = .ok (.iaload, 1) := by decide +kernel
theorem dX9_marks_21 : decode cX9_marks 21 = .ok (.ifCond .le 7, 3) := by decide +kernel
theorem dX9_marks_24 : decode cX9_marks 24 = .ok (.iconst 1, 1) := by decide +kernel
theorem dX9_marks_25 : decode cX9_marks 25 = .ok (.goto 4, 3) := by decide +kernel
theorem dX9_marks_28 : decode cX9_marks 28 = .ok (.iconst 0, 1) := by decide +kernel
theorem dX9_marks_29 : decode cX9_marks 29 = .ok (.iadd, 1) := by decide +kernel
theorem dX9_marks_30 : decode cX9_marks 30 = .ok (.istore_n 1, 1) := by decide +kernel
theorem dX9_marks_31 : decode cX9_marks 31 = .ok (.iinc 2 1, 3) := by decide +kernel
theorem dX9_marks_34 : decode cX9_marks 34 = .ok (.goto (-30), 3) := by decide +kernel
theorem dX9_marks_37 : decode cX9_marks 37 = .ok (.iload_n 1, 1) := by decide +kernel
theorem dX9_marks_38 : decode cX9_marks 38 = .ok (.ireturn, 1) := by decide +kernel
theorem dX9_count_0 : decode cX9_count 0 = .ok (.iload_n 1, 1) := by decide +kernel
theorem dX9_count_1 : decode cX9_count 1 = .ok (.tableswitch 171 0 17 #[87, 92, 97, 102, 102, 102, 114, 114, 127, 132, 140, 140, 140, 140, 140, 153, 161, 166], 87) := by decide +kernel
theorem dX9_count_88 : decode cX9_count 88 = .ok (.aload_n 0, 1) := by decide +kernel
theorem dX9_count_89 : decode cX9_count 89 = .ok (.invokevirtual 37, 3) := by decide +kernel
theorem dX9_count_92 : decode cX9_count 92 = .ok (.ireturn, 1) := by decide +kernel
theorem dX9_count_93 : decode cX9_count 93 = .ok (.aload_n 0, 1) := by decide +kernel
theorem dX9_count_94 : decode cX9_count 94 = .ok (.invokevirtual 187, 3) := by decide +kernel
theorem dX9_count_97 : decode cX9_count 97 = .ok (.ireturn, 1) := by decide +kernel
theorem dX9_count_98 : decode cX9_count 98 = .ok (.aload_n 0, 1) := by decide +kernel
theorem dX9_count_99 : decode cX9_count 99 = .ok (.invokevirtual 41, 3) := by decide +kernel
theorem dX9_count_102 : decode cX9_count 102 = .ok (.ireturn, 1) := by decide +kernel
theorem dX9_count_103 : decode cX9_count 103 = .ok (.aload_n 0, 1) := by decide +kernel
theorem dX9_count_104 : decode cX9_count 104 = .ok (.getfield 7, 3) := by decide +kernel
theorem dX9_count_107 : decode cX9_count 107 = .ok (.bipush 61, 2) := by decide +kernel
theorem dX9_count_109 : decode cX9_count 109 = .ok (.iload_n 1, 1) := by decide +kernel
theorem dX9_count_110 : decode cX9_count 110 = .ok (.iadd, 1) := by decide +kernel
theorem dX9_count_111 : decode cX9_count 111 = .ok (.iconst 3, 1) := by decide +kernel
theorem dX9_count_112 : decode cX9_count 112 = .ok (.isub, 1) := by decide +kernel
theorem dX9_count_113 : decode cX9_count 113 = .ok (.iaload, 1) := by decide +kernel
theorem dX9_count_114 : decode cX9_count 114 = .ok (.ireturn, 1) := by decide +kernel
theorem dX9_count_115 : decode cX9_count 115 = .ok (.aload_n 0, 1) := by decide +kernel
theorem dX9_count_116 : decode cX9_count 116 = .ok (.getfield 7, 3) := by decide +kernel
theorem dX9_count_119 : decode cX9_count 119 = .ok (.bipush 74, 2) := by decide +kernel
theorem dX9_count_121 : decode cX9_count 121 = .ok (.iload_n 1, 1) := by decide +kernel
theorem dX9_count_122 : decode cX9_count 122 = .ok (.iadd, 1) := by decide +kernel
theorem dX9_count_123 : decode cX9_count 123 = .ok (.bipush 6, 2) := by decide +kernel
theorem dX9_count_125 : decode cX9_count 125 = .ok (.isub, 1) := by decide +kernel
theorem dX9_count_126 : decode cX9_count 126 = .ok (.iaload, 1) := by decide +kernel
theorem dX9_count_127 : decode cX9_count 127 = .ok (.ireturn, 1) := by decide +kernel
theorem dX9_count_128 : decode cX9_count 128 = .ok (.aload_n 0, 1) := by decide +kernel
theorem dX9_count_129 : decode cX9_count 129 = .ok (.invokevirtual 126, 3) := by decide +kernel
theorem dX9_count_132 : decode cX9_count 132 = .ok (.ireturn, 1) := by decide +kernel
theorem dX9_count_133 : decode cX9_count 133 = .ok (.aload_n 0, 1) := by decide +kernel
theorem dX9_count_134 : decode cX9_count 134 = .ok (.getfield 7, 3) := by decide +kernel
theorem dX9_count_137 : decode cX9_count 137 = .ok (.bipush 76, 2) := by decide +kernel
theorem dX9_count_139 : decode cX9_count 139 = .ok (.iaload, 1) := by decide +kernel
theorem dX9_count_140 : decode cX9_count 140 = .ok (.ireturn, 1) := by decide +kernel
theorem dX9_count_141 : decode cX9_count 141 = .ok (.aload_n 0, 1) := by decide +kernel
theorem dX9_count_142 : decode cX9_count 142 = .ok (.getfield 7, 3) := by decide +kernel
theorem dX9_count_145 : decode cX9_count 145 = .ok (.bipush 93, 2) := by decide +kernel
theorem dX9_count_147 : decode cX9_count 147 = .ok (.iload_n 1, 1) := by decide +kernel
theorem dX9_count_148 : decode cX9_count 148 = .ok (.iadd, 1) := by decide +kernel
theorem dX9_count_149 : decode cX9_count 149 = .ok (.bipush 10, 2) := by decide +kernel
theorem dX9_count_151 : decode cX9_count 151 = .ok (.isub, 1) := by decide +kernel
theorem dX9_count_152 : decode cX9_count 152 = .ok (.iaload, 1) := by decide +kernel
theorem dX9_count_153 : decode cX9_count 153 = .ok (.ireturn, 1) := by decide +kernel
theorem dX9_count_154 : decode cX9_count 154 = .ok (.aload_n 0, 1) := by decide +kernel
theorem dX9_count_155 : decode cX9_count 155 = .ok (.sipush (-1004), 3) := by decide +kernel
theorem dX9_count_158 : decode cX9_count 158 = .ok (.invokevirtual 178, 3) := by decide +kernel
theorem dX9_count_161 : decode cX9_count 161 = .ok (.ireturn, 1) := by decide +kernel
theorem dX9_count_162 : decode cX9_count 162 = .ok (.aload_n 0, 1) := by decide +kernel
theorem dX9_count_163 : decode cX9_count 163 = .ok (.getfield 62, 3) := by decide +kernel
theorem dX9_count_166 : decode cX9_count 166 = .ok (.ireturn, 1) := by decide +kernel
theorem dX9_count_167 : decode cX9_count 167 = .ok (.aload_n 0, 1) := by decide +kernel
theorem dX9_count_168 : decode cX9_count 168 = .ok (.getfield 29, 3) := by decide +kernel
theorem dX9_count_171 : decode cX9_count 171 = .ok (.ireturn, 1) := by decide +kernel
theorem dX9_count_172 : decode cX9_count 172 = .ok (.sipush (-1001), 3) := by decide +kernel
theorem dX9_count_175 : decode cX9_count 175 = .ok (.ireturn, 1) := by decide +kernel
theorem dX9_mixes_0 : decode cX9_mixes 0 = .ok (.aload_n 0, 1) := by decide +kernel
theorem dX9_mixes_1 : decode cX9_mixes 1 = .ok (.ldc2_w 190, 3) := by decide +kernel
theorem dX9_mixes_4 : decode cX9_mixes 4 = .ok (.aload_n 0, 1) := by decide +kernel
theorem dX9_mixes_5 : decode cX9_mixes 5 = .ok (.getfield 192, 3) := by decide +kernel
theorem dX9_mixes_8 : decode cX9_mixes 8 = .ok (.lmul, 1) := by decide +kernel
theorem dX9_mixes_9 : decode cX9_mixes 9 = .ok (.iload_n 1, 1) := by decide +kernel
theorem dX9_mixes_10 : decode cX9_mixes 10 = .ok (.i2l, 1) := by decide +kernel
theorem dX9_mixes_11 : decode cX9_mixes 11 = .ok (.ladd, 1) := by decide +kernel
theorem dX9_mixes_12 : decode cX9_mixes 12 = .ok (.putfield 192, 3) := by decide +kernel
theorem dX9_mixes_15 : decode cX9_mixes 15 = .ok (.return_, 1) := by decide +kernel
theorem dX9_mixesReadings_0 : decode cX9_mixesReadings 0 = .ok (.iconst 0, 1) := by decide +kernel
theorem dX9_mixesReadings_1 : decode cX9_mixesReadings 1 = .ok (.istore_n 1, 1) := by decide +kernel
theorem dX9_mixesReadings_2 : decode cX9_mixesReadings 2 = .ok (.iload_n 1, 1) := by decide +kernel
theorem dX9_mixesReadings_3 : decode cX9_mixesReadings 3 = .ok (.aload_n 0, 1) := by decide +kernel
theorem dX9_mixesReadings_4 : decode cX9_mixesReadings 4 = .ok (.getfield 7, 3) := by decide +kernel
theorem dX9_mixesReadings_7 : decode cX9_mixesReadings 7 = .ok (.bipush 76, 2) := by decide +kernel
theorem dX9_mixesReadings_9 : decode cX9_mixesReadings 9 = .ok (.iaload, 1) := by decide +kernel
theorem dX9_mixesReadings_10 : decode cX9_mixesReadings 10 = .ok (.if_icmp .ge 32, 3) := by decide +kernel
theorem dX9_mixesReadings_13 : decode cX9_mixesReadings 13 = .ok (.iconst 0, 1) := by decide +kernel
theorem dX9_mixesReadings_14 : decode cX9_mixesReadings 14 = .ok (.istore_n 2, 1) := by decide +kernel
theorem dX9_mixesReadings_15 : decode cX9_mixesReadings 15 = .ok (.iload_n 2, 1) := by decide +kernel
theorem dX9_mixesReadings_16 : decode cX9_mixesReadings 16 = .ok (.iconst 3, 1) := by decide +kernel
theorem dX9_mixesReadings_17 : decode cX9_mixesReadings 17 = .ok (.if_icmp .ge 19, 3) := by decide +kernel
theorem dX9_mixesReadings_20 : decode cX9_mixesReadings 20 = .ok (.aload_n 0, 1) := by decide +kernel
theorem dX9_mixesReadings_21 : decode cX9_mixesReadings 21 = .ok (.aload_n 0, 1) := by decide +kernel
theorem dX9_mixesReadings_22 : decode cX9_mixesReadings 22 = .ok (.iload_n 1, 1) := by decide +kernel
theorem dX9_mixesReadings_23 : decode cX9_mixesReadings 23 = .ok (.iload_n 2, 1) := by decide +kernel
theorem dX9_mixesReadings_24 : decode cX9_mixesReadings 24 = .ok (.invokevirtual 196, 3) := by decide +kernel
theorem dX9_mixesReadings_27 : decode cX9_mixesReadings 27 = .ok (.invokevirtual 199, 3) := by decide +kernel
theorem dX9_mixesReadings_30 : decode cX9_mixesReadings 30 = .ok (.iinc 2 1, 3) := by decide +kernel
theorem dX9_mixesReadings_33 : decode cX9_mixesReadings 33 = .ok (.goto (-18), 3) := by decide +kernel
theorem dX9_mixesReadings_36 : decode cX9_mixesReadings 36 = .ok (.iinc 1 1, 3) := by decide +kernel
theorem dX9_mixesReadings_39 : decode cX9_mixesReadings 39 = .ok (.goto (-37), 3) := by decide +kernel
theorem dX9_mixesReadings_42 : decode cX9_mixesReadings 42 = .ok (.aload_n 0, 1) := by decide +kernel
theorem dX9_mixesReadings_43 : decode cX9_mixesReadings 43 = .ok (.aload_n 0, 1) := by decide +kernel
theorem dX9_mixesReadings_44 : decode cX9_mixesReadings 44 = .ok (.invokevirtual 202, 3) := by decide +kernel
theorem dX9_mixesReadings_47 : decode cX9_mixesReadings 47 = .ok (.invokevirtual 199, 3) := by decide +kernel
theorem dX9_mixesReadings_50 : decode cX9_mixesReadings 50 = .ok (.iconst 0, 1) := by decide +kernel
theorem dX9_mixesReadings_51 : decode cX9_mixesReadings 51 = .ok (.istore_n 1, 1) := by decide +kernel
theorem dX9_mixesReadings_52 : decode cX9_mixesReadings 52 = .ok (.iload_n 1, 1) := by decide +kernel
theorem dX9_mixesReadings_53 : decode cX9_mixesReadings 53 = .ok (.iconst 5, 1) := by decide +kernel
theorem dX9_mixesReadings_54 : decode cX9_mixesReadings 54 = .ok (.if_icmp .ge 18, 3) := by decide +kernel
theorem dX9_mixesReadings_57 : decode cX9_mixesReadings 57 = .ok (.aload_n 0, 1) := by decide +kernel
theorem dX9_mixesReadings_58 : decode cX9_mixesReadings 58 = .ok (.aload_n 0, 1) := by decide +kernel
theorem dX9_mixesReadings_59 : decode cX9_mixesReadings 59 = .ok (.iload_n 1, 1) := by decide +kernel
theorem dX9_mixesReadings_60 : decode cX9_mixesReadings 60 = .ok (.invokevirtual 205, 3) := by decide +kernel
theorem dX9_mixesReadings_63 : decode cX9_mixesReadings 63 = .ok (.invokevirtual 199, 3) := by decide +kernel
theorem dX9_mixesReadings_66 : decode cX9_mixesReadings 66 = .ok (.iinc 1 1, 3) := by decide +kernel
theorem dX9_mixesReadings_69 : decode cX9_mixesReadings 69 = .ok (.goto (-17), 3) := by decide +kernel
theorem dX9_mixesReadings_72 : decode cX9_mixesReadings 72 = .ok (.aload_n 0, 1) := by decide +kernel
theorem dX9_mixesReadings_73 : decode cX9_mixesReadings 73 = .ok (.aload_n 0, 1) := by decide +kernel
theorem dX9_mixesReadings_74 : decode cX9_mixesReadings 74 = .ok (.iconst 0, 1) := by decide +kernel
theorem dX9_mixesReadings_75 : decode cX9_mixesReadings 75 = .ok (.invokevirtual 208, 3) := by decide +kernel
theorem dX9_mixesReadings_78 : decode cX9_mixesReadings 78 = .ok (.invokevirtual 199, 3) := by decide +kernel
theorem dX9_mixesReadings_81 : decode cX9_mixesReadings 81 = .ok (.aload_n 0, 1) := by decide +kernel
theorem dX9_mixesReadings_82 : decode cX9_mixesReadings 82 = .ok (.aload_n 0, 1) := by decide +kernel
theorem dX9_mixesReadings_83 : decode cX9_mixesReadings 83 = .ok (.bipush 20, 2) := by decide +kernel
theorem dX9_mixesReadings_85 : decode cX9_mixesReadings 85 = .ok (.iconst 0, 1) := by decide +kernel
theorem dX9_mixesReadings_86 : decode cX9_mixesReadings 86 = .ok (.invokevirtual 211, 3) := by decide +kernel
theorem dX9_mixesReadings_89 : decode cX9_mixesReadings 89 = .ok (.invokevirtual 199, 3) := by decide +kernel
theorem dX9_mixesReadings_92 : decode cX9_mixesReadings 92 = .ok (.aload_n 0, 1) := by decide +kernel
theorem dX9_mixesReadings_93 : decode cX9_mixesReadings 93 = .ok (.aload_n 0, 1) := by decide +kernel
theorem dX9_mixesReadings_94 : decode cX9_mixesReadings 94 = .ok (.bipush 20, 2) := by decide +kernel
theorem dX9_mixesReadings_96 : decode cX9_mixesReadings 96 = .ok (.iconst 1, 1) := by decide +kernel
theorem dX9_mixesReadings_97 : decode cX9_mixesReadings 97 = .ok (.invokevirtual 211, 3) := by decide +kernel
theorem dX9_mixesReadings_100 : decode cX9_mixesReadings 100 = .ok (.invokevirtual 199, 3) := by decide +kernel
theorem dX9_mixesReadings_103 : decode cX9_mixesReadings 103 = .ok (.return_, 1) := by decide +kernel
theorem dX9_digest_0 : decode cX9_digest 0 = .ok (.aload_n 0, 1) := by decide +kernel
theorem dX9_digest_1 : decode cX9_digest 1 = .ok (.ldc2_w 215, 3) := by decide +kernel
theorem dX9_digest_4 : decode cX9_digest 4 = .ok (.putfield 192, 3) := by decide +kernel
theorem dX9_digest_7 : decode cX9_digest 7 = .ok (.iconst 0, 1) := by decide +kernel
theorem dX9_digest_8 : decode cX9_digest 8 = .ok (.istore_n 1, 1) := by decide +kernel
theorem dX9_digest_9 : decode cX9_digest 9 = .ok (.iload_n 1, 1) := by decide +kernel
theorem dX9_digest_10 : decode cX9_digest 10 = .ok (.bipush 18, 2) := by decide +kernel
theorem dX9_digest_12 : decode cX9_digest 12 = .ok (.if_icmp .ge 18, 3) := by decide +kernel
theorem dX9_digest_15 : decode cX9_digest 15 = .ok (.aload_n 0, 1) := by decide +kernel
theorem dX9_digest_16 : decode cX9_digest 16 = .ok (.aload_n 0, 1) := by decide +kernel
theorem dX9_digest_17 : decode cX9_digest 17 = .ok (.iload_n 1, 1) := by decide +kernel
theorem dX9_digest_18 : decode cX9_digest 18 = .ok (.invokevirtual 217, 3) := by decide +kernel
theorem dX9_digest_21 : decode cX9_digest 21 = .ok (.invokevirtual 199, 3) := by decide +kernel
theorem dX9_digest_24 : decode cX9_digest 24 = .ok (.iinc 1 1, 3) := by decide +kernel
theorem dX9_digest_27 : decode cX9_digest 27 = .ok (.goto (-18), 3) := by decide +kernel
theorem dX9_digest_30 : decode cX9_digest 30 = .ok (.iconst 0, 1) := by decide +kernel
theorem dX9_digest_31 : decode cX9_digest 31 = .ok (.istore_n 1, 1) := by decide +kernel
theorem dX9_digest_32 : decode cX9_digest 32 = .ok (.iload_n 1, 1) := by decide +kernel
theorem dX9_digest_33 : decode cX9_digest 33 = .ok (.aload_n 0, 1) := by decide +kernel
theorem dX9_digest_34 : decode cX9_digest 34 = .ok (.invokevirtual 37, 3) := by decide +kernel
theorem dX9_digest_37 : decode cX9_digest 37 = .ok (.if_icmp .ge 31, 3) := by decide +kernel
theorem dX9_digest_40 : decode cX9_digest 40 = .ok (.aload_n 0, 1) := by decide +kernel
theorem dX9_digest_41 : decode cX9_digest 41 = .ok (.aload_n 0, 1) := by decide +kernel
theorem dX9_digest_42 : decode cX9_digest 42 = .ok (.iconst 0, 1) := by decide +kernel
theorem dX9_digest_43 : decode cX9_digest 43 = .ok (.iload_n 1, 1) := by decide +kernel
theorem dX9_digest_44 : decode cX9_digest 44 = .ok (.invokevirtual 220, 3) := by decide +kernel
theorem dX9_digest_47 : decode cX9_digest 47 = .ok (.invokevirtual 199, 3) := by decide +kernel
theorem dX9_digest_50 : decode cX9_digest 50 = .ok (.aload_n 0, 1) := by decide +kernel
theorem dX9_digest_51 : decode cX9_digest 51 = .ok (.aload_n 0, 1) := by decide +kernel
theorem dX9_digest_52 : decode cX9_digest 52 = .ok (.sipush 1000, 3) := by decide +kernel
theorem dX9_digest_55 : decode cX9_digest 55 = .ok (.iload_n 1, 1) := by decide +kernel
theorem dX9_digest_56 : decode cX9_digest 56 = .ok (.invokevirtual 220, 3) := by decide +kernel
theorem dX9_digest_59 : decode cX9_digest 59 = .ok (.invokevirtual 199, 3) := by decide +kernel
theorem dX9_digest_62 : decode cX9_digest 62 = .ok (.iinc 1 1, 3) := by decide +kernel
theorem dX9_digest_65 : decode cX9_digest 65 = .ok (.goto (-33), 3) := by decide +kernel
theorem dX9_digest_68 : decode cX9_digest 68 = .ok (.iconst 0, 1) := by decide +kernel
theorem dX9_digest_69 : decode cX9_digest 69 = .ok (.istore_n 1, 1) := by decide +kernel
theorem dX9_digest_70 : decode cX9_digest 70 = .ok (.iload_n 1, 1) := by decide +kernel
theorem dX9_digest_71 : decode cX9_digest 71 = .ok (.bipush 20, 2) := by decide +kernel
theorem dX9_digest_73 : decode cX9_digest 73 = .ok (.if_icmp .ge 40, 3) := by decide +kernel
theorem dX9_digest_76 : decode cX9_digest 76 = .ok (.iload_n 1, 1) := by decide +kernel
theorem dX9_digest_77 : decode cX9_digest 77 = .ok (.aload_n 0, 1) := by decide +kernel
theorem dX9_digest_78 : decode cX9_digest 78 = .ok (.invokevirtual 126, 3) := by decide +kernel
theorem dX9_digest_81 : decode cX9_digest 81 = .ok (.if_icmp .ge 32, 3) := by decide +kernel
theorem dX9_digest_84 : decode cX9_digest 84 = .ok (.iconst 0, 1) := by decide +kernel
theorem dX9_digest_85 : decode cX9_digest 85 = .ok (.istore_n 2, 1) := by decide +kernel
theorem dX9_digest_86 : decode cX9_digest 86 = .ok (.iload_n 2, 1) := by decide +kernel
theorem dX9_digest_87 : decode cX9_digest 87 = .ok (.iconst 4, 1) := by decide +kernel
theorem dX9_digest_88 : decode cX9_digest 88 = .ok (.if_icmp .ge 19, 3) := by decide +kernel
theorem dX9_digest_91 : decode cX9_digest 91 = .ok (.aload_n 0, 1) := by decide +kernel
theorem dX9_digest_92 : decode cX9_digest 92 = .ok (.aload_n 0, 1) := by decide +kernel
theorem dX9_digest_93 : decode cX9_digest 93 = .ok (.iload_n 1, 1) := by decide +kernel
theorem dX9_digest_94 : decode cX9_digest 94 = .ok (.iload_n 2, 1) := by decide +kernel
theorem dX9_digest_95 : decode cX9_digest 95 = .ok (.invokevirtual 223, 3) := by decide +kernel
theorem dX9_digest_98 : decode cX9_digest 98 = .ok (.invokevirtual 199, 3) := by decide +kernel
theorem dX9_digest_101 : decode cX9_digest 101 = .ok (.iinc 2 1, 3) := by decide +kernel
theorem dX9_digest_104 : decode cX9_digest 104 = .ok (.goto (-18), 3) := by decide +kernel
theorem dX9_digest_107 : decode cX9_digest 107 = .ok (.iinc 1 1, 3) := by decide +kernel
theorem dX9_digest_110 : decode cX9_digest 110 = .ok (.goto (-40), 3) := by decide +kernel
theorem dX9_digest_113 : decode cX9_digest 113 = .ok (.iconst 0, 1) := by decide +kernel
theorem dX9_digest_114 : decode cX9_digest 114 = .ok (.istore_n 1, 1) := by decide +kernel
theorem dX9_digest_115 : decode cX9_digest 115 = .ok (.iload_n 1, 1) := by decide +kernel
theorem dX9_digest_116 : decode cX9_digest 116 = .ok (.iconst 4, 1) := by decide +kernel
theorem dX9_digest_117 : decode cX9_digest 117 = .ok (.if_icmp .ge 18, 3) := by decide +kernel
theorem dX9_digest_120 : decode cX9_digest 120 = .ok (.aload_n 0, 1) := by decide +kernel
theorem dX9_digest_121 : decode cX9_digest 121 = .ok (.aload_n 0, 1) := by decide +kernel
theorem dX9_digest_122 : decode cX9_digest 122 = .ok (.iload_n 1, 1) := by decide +kernel
theorem dX9_digest_123 : decode cX9_digest 123 = .ok (.invokevirtual 226, 3) := by decide +kernel
theorem dX9_digest_126 : decode cX9_digest 126 = .ok (.invokevirtual 199, 3) := by decide +kernel
theorem dX9_digest_129 : decode cX9_digest 129 = .ok (.iinc 1 1, 3) := by decide +kernel
theorem dX9_digest_132 : decode cX9_digest 132 = .ok (.goto (-17), 3) := by decide +kernel
theorem dX9_digest_135 : decode cX9_digest 135 = .ok (.aload_n 0, 1) := by decide +kernel
theorem dX9_digest_136 : decode cX9_digest 136 = .ok (.invokevirtual 229, 3) := by decide +kernel
theorem dX9_digest_139 : decode cX9_digest 139 = .ok (.iconst 0, 1) := by decide +kernel
theorem dX9_digest_140 : decode cX9_digest 140 = .ok (.istore_n 1, 1) := by decide +kernel
theorem dX9_digest_141 : decode cX9_digest 141 = .ok (.iload_n 1, 1) := by decide +kernel
theorem dX9_digest_142 : decode cX9_digest 142 = .ok (.iconst 5, 1) := by decide +kernel
theorem dX9_digest_143 : decode cX9_digest 143 = .ok (.if_icmp .ge 42, 3) := by decide +kernel
theorem dX9_digest_146 : decode cX9_digest 146 = .ok (.iconst 0, 1) := by decide +kernel
theorem dX9_digest_147 : decode cX9_digest 147 = .ok (.istore_n 2, 1) := by decide +kernel
theorem dX9_digest_148 : decode cX9_digest 148 = .ok (.iload_n 2, 1) := by decide +kernel
theorem dX9_digest_149 : decode cX9_digest 149 = .ok (.iconst 4, 1) := by decide +kernel
theorem dX9_digest_150 : decode cX9_digest 150 = .ok (.if_icmp .ge 19, 3) := by decide +kernel
theorem dX9_digest_153 : decode cX9_digest 153 = .ok (.aload_n 0, 1) := by decide +kernel
theorem dX9_digest_154 : decode cX9_digest 154 = .ok (.aload_n 0, 1) := by decide +kernel
theorem dX9_digest_155 : decode cX9_digest 155 = .ok (.iload_n 1, 1) := by decide +kernel
theorem dX9_digest_156 : decode cX9_digest 156 = .ok (.iload_n 2, 1) := by decide +kernel
theorem dX9_digest_157 : decode cX9_digest 157 = .ok (.invokevirtual 232, 3) := by decide +kernel
theorem dX9_digest_160 : decode cX9_digest 160 = .ok (.invokevirtual 199, 3) := by decide +kernel
theorem dX9_digest_163 : decode cX9_digest 163 = .ok (.iinc 2 1, 3) := by decide +kernel
theorem dX9_digest_166 : decode cX9_digest 166 = .ok (.goto (-18), 3) := by decide +kernel
theorem dX9_digest_169 : decode cX9_digest 169 = .ok (.aload_n 0, 1) := by decide +kernel
theorem dX9_digest_170 : decode cX9_digest 170 = .ok (.aload_n 0, 1) := by decide +kernel
theorem dX9_digest_171 : decode cX9_digest 171 = .ok (.iload_n 1, 1) := by decide +kernel
theorem dX9_digest_172 : decode cX9_digest 172 = .ok (.iconst 0, 1) := by decide +kernel
theorem dX9_digest_173 : decode cX9_digest 173 = .ok (.invokevirtual 235, 3) := by decide +kernel
theorem dX9_digest_176 : decode cX9_digest 176 = .ok (.invokevirtual 199, 3) := by decide +kernel
theorem dX9_digest_179 : decode cX9_digest 179 = .ok (.iinc 1 1, 3) := by decide +kernel
theorem dX9_digest_182 : decode cX9_digest 182 = .ok (.goto (-41), 3) := by decide +kernel
theorem dX9_digest_185 : decode cX9_digest 185 = .ok (.aload_n 0, 1) := by decide +kernel
theorem dX9_digest_186 : decode cX9_digest 186 = .ok (.getfield 192, 3) := by decide +kernel
theorem dX9_digest_189 : decode cX9_digest 189 = .ok (.lreturn, 1) := by decide +kernel
theorem dJ6_bitCount_0f7a4_0 : decode cJ6_bitCount_0f7a4 0 = .ok (.iload_n 0, 1) := by decide +kernel
theorem dJ6_bitCount_0f7a4_1 : decode cJ6_bitCount_0f7a4 1 = .ok (.iload_n 0, 1) := by decide +kernel
theorem dJ6_bitCount_0f7a4_2 : decode cJ6_bitCount_0f7a4 2 = .ok (.iconst 1, 1) := by decide +kernel
theorem dJ6_bitCount_0f7a4_3 : decode cJ6_bitCount_0f7a4 3 = .ok (.iushr, 1) := by decide +kernel
theorem dJ6_bitCount_0f7a4_4 : decode cJ6_bitCount_0f7a4 4 = .ok (.ldc_w 265, 3) := by decide +kernel
theorem dJ6_bitCount_0f7a4_7 : decode cJ6_bitCount_0f7a4 7 = .ok (.iand, 1) := by decide +kernel
theorem dJ6_bitCount_0f7a4_8 : decode cJ6_bitCount_0f7a4 8 = .ok (.isub, 1) := by decide +kernel
theorem dJ6_bitCount_0f7a4_9 : decode cJ6_bitCount_0f7a4 9 = .ok (.istore_n 0, 1) := by decide +kernel
theorem dJ6_bitCount_0f7a4_10 : decode cJ6_bitCount_0f7a4 10 = .ok (.iload_n 0, 1) := by decide +kernel
theorem dJ6_bitCount_0f7a4_11 : decode cJ6_bitCount_0f7a4 11 = .ok (.ldc_w 266, 3) := by decide +kernel
theorem dJ6_bitCount_0f7a4_14 : decode cJ6_bitCount_0f7a4 14 = .ok (.iand, 1) := by decide +kernel
theorem dJ6_bitCount_0f7a4_15 : decode cJ6_bitCount_0f7a4 15 = .ok (.iload_n 0, 1) := by decide +kernel
theorem dJ6_bitCount_0f7a4_16 : decode cJ6_bitCount_0f7a4 16 = .ok (.iconst 2, 1) := by decide +kernel
theorem dJ6_bitCount_0f7a4_17 : decode cJ6_bitCount_0f7a4 17 = .ok (.iushr, 1) := by decide +kernel
theorem dJ6_bitCount_0f7a4_18 : decode cJ6_bitCount_0f7a4 18 = .ok (.ldc_w 266, 3) := by decide +kernel
theorem dJ6_bitCount_0f7a4_21 : decode cJ6_bitCount_0f7a4 21 = .ok (.iand, 1) := by decide +kernel
theorem dJ6_bitCount_0f7a4_22 : decode cJ6_bitCount_0f7a4 22 = .ok (.iadd, 1) := by decide +kernel
theorem dJ6_bitCount_0f7a4_23 : decode cJ6_bitCount_0f7a4 23 = .ok (.istore_n 0, 1) := by decide +kernel
theorem dJ6_bitCount_0f7a4_24 : decode cJ6_bitCount_0f7a4 24 = .ok (.iload_n 0, 1) := by decide +kernel
theorem dJ6_bitCount_0f7a4_25 : decode cJ6_bitCount_0f7a4 25 = .ok (.iload_n 0, 1) := by decide +kernel
theorem dJ6_bitCount_0f7a4_26 : decode cJ6_bitCount_0f7a4 26 = .ok (.iconst 4, 1) := by decide +kernel
theorem dJ6_bitCount_0f7a4_27 : decode cJ6_bitCount_0f7a4 27 = .ok (.iushr, 1) := by decide +kernel
theorem dJ6_bitCount_0f7a4_28 : decode cJ6_bitCount_0f7a4 28 = .ok (.iadd, 1) := by decide +kernel
theorem dJ6_bitCount_0f7a4_29 : decode cJ6_bitCount_0f7a4 29 = .ok (.ldc_w 267, 3) := by decide +kernel
theorem dJ6_bitCount_0f7a4_32 : decode cJ6_bitCount_0f7a4 32 = .ok (.iand, 1) := by decide +kernel
theorem dJ6_bitCount_0f7a4_33 : decode cJ6_bitCount_0f7a4 33 = .ok (.istore_n 0, 1) := by decide +kernel
theorem dJ6_bitCount_0f7a4_34 : decode cJ6_bitCount_0f7a4 34 = .ok (.iload_n 0, 1) := by decide +kernel
theorem dJ6_bitCount_0f7a4_35 : decode cJ6_bitCount_0f7a4 35 = .ok (.iload_n 0, 1) := by decide +kernel
theorem dJ6_bitCount_0f7a4_36 : decode cJ6_bitCount_0f7a4 36 = .ok (.bipush 8, 2) := by decide +kernel
theorem dJ6_bitCount_0f7a4_38 : decode cJ6_bitCount_0f7a4 38 = .ok (.iushr, 1) := by decide +kernel
theorem dJ6_bitCount_0f7a4_39 : decode cJ6_bitCount_0f7a4 39 = .ok (.iadd, 1) := by decide +kernel
theorem dJ6_bitCount_0f7a4_40 : decode cJ6_bitCount_0f7a4 40 = .ok (.istore_n 0, 1) := by decide +kernel
theorem dJ6_bitCount_0f7a4_41 : decode cJ6_bitCount_0f7a4 41 = .ok (.iload_n 0, 1) := by decide +kernel
theorem dJ6_bitCount_0f7a4_42 : decode cJ6_bitCount_0f7a4 42 = .ok (.iload_n 0, 1) := by decide +kernel
theorem dJ6_bitCount_0f7a4_43 : decode cJ6_bitCount_0f7a4 43 = .ok (.bipush 16, 2) := by decide +kernel
theorem dJ6_bitCount_0f7a4_45 : decode cJ6_bitCount_0f7a4 45 = .ok (.iushr, 1) := by decide +kernel
theorem dJ6_bitCount_0f7a4_46 : decode cJ6_bitCount_0f7a4 46 = .ok (.iadd, 1) := by decide +kernel
theorem dJ6_bitCount_0f7a4_47 : decode cJ6_bitCount_0f7a4 47 = .ok (.istore_n 0, 1) := by decide +kernel
theorem dJ6_bitCount_0f7a4_48 : decode cJ6_bitCount_0f7a4 48 = .ok (.iload_n 0, 1) := by decide +kernel
theorem dJ6_bitCount_0f7a4_49 : decode cJ6_bitCount_0f7a4 49 = .ok (.bipush 63, 2) := by decide +kernel
theorem dJ6_bitCount_0f7a4_51 : decode cJ6_bitCount_0f7a4 51 = .ok (.iand, 1) := by decide +kernel
theorem dJ6_bitCount_0f7a4_52 : decode cJ6_bitCount_0f7a4 52 = .ok (.ireturn, 1) := by decide +kernel
theorem dJ13_bitCount_95d88_0 : decode cJ13_bitCount_95d88 0 = .ok (.lload_n 0, 1) := by decide +kernel
theorem dJ13_bitCount_95d88_1 : decode cJ13_bitCount_95d88 1 = .ok (.lload_n 0, 1) := by decide +kernel
theorem dJ13_bitCount_95d88_2 : decode cJ13_bitCount_95d88 2 = .ok (.iconst 1, 1) := by decide +kernel
theorem dJ13_bitCount_95d88_3 : decode cJ13_bitCount_95d88 3 = .ok (.lushr, 1) := by decide +kernel
theorem dJ13_bitCount_95d88_4 : decode cJ13_bitCount_95d88 4 = .ok (.ldc2_w 314, 3) := by decide +kernel
theorem dJ13_bitCount_95d88_7 : decode cJ13_bitCount_95d88 7 = .ok (.land, 1) := by decide +kernel
theorem dJ13_bitCount_95d88_8 : decode cJ13_bitCount_95d88 8 = .ok (.lsub, 1) := by decide +kernel
theorem dJ13_bitCount_95d88_9 : decode cJ13_bitCount_95d88 9 = .ok (.lstore_n 0, 1) := by decide +kernel
theorem dJ13_bitCount_95d88_10 : decode cJ13_bitCount_95d88 10 = .ok (.lload_n 0, 1) := by decide +kernel
theorem dJ13_bitCount_95d88_11 : decode cJ13_bitCount_95d88 11 = .ok (.ldc2_w 316, 3) := by decide +kernel
theorem dJ13_bitCount_95d88_14 : decode cJ13_bitCount_95d88 14 = .ok (.land, 1) := by decide +kernel
theorem dJ13_bitCount_95d88_15 : decode cJ13_bitCount_95d88 15 = .ok (.lload_n 0, 1) := by decide +kernel
theorem dJ13_bitCount_95d88_16 : decode cJ13_bitCount_95d88 16 = .ok (.iconst 2, 1) := by decide +kernel
theorem dJ13_bitCount_95d88_17 : decode cJ13_bitCount_95d88 17 = .ok (.lushr, 1) := by decide +kernel
theorem dJ13_bitCount_95d88_18 : decode cJ13_bitCount_95d88 18 = .ok (.ldc2_w 316, 3) := by decide +kernel
theorem dJ13_bitCount_95d88_21 : decode cJ13_bitCount_95d88 21 = .ok (.land, 1) := by decide +kernel
theorem dJ13_bitCount_95d88_22 : decode cJ13_bitCount_95d88 22 = .ok (.ladd, 1) := by decide +kernel
theorem dJ13_bitCount_95d88_23 : decode cJ13_bitCount_95d88 23 = .ok (.lstore_n 0, 1) := by decide +kernel
theorem dJ13_bitCount_95d88_24 : decode cJ13_bitCount_95d88 24 = .ok (.lload_n 0, 1) := by decide +kernel
theorem dJ13_bitCount_95d88_25 : decode cJ13_bitCount_95d88 25 = .ok (.lload_n 0, 1) := by decide +kernel
theorem dJ13_bitCount_95d88_26 : decode cJ13_bitCount_95d88 26 = .ok (.iconst 4, 1) := by decide +kernel
theorem dJ13_bitCount_95d88_27 : decode cJ13_bitCount_95d88 27 = .ok (.lushr, 1) := by decide +kernel
theorem dJ13_bitCount_95d88_28 : decode cJ13_bitCount_95d88 28 = .ok (.ladd, 1) := by decide +kernel
theorem dJ13_bitCount_95d88_29 : decode cJ13_bitCount_95d88 29 = .ok (.ldc2_w 318, 3) := by decide +kernel
theorem dJ13_bitCount_95d88_32 : decode cJ13_bitCount_95d88 32 = .ok (.land, 1) := by decide +kernel
theorem dJ13_bitCount_95d88_33 : decode cJ13_bitCount_95d88 33 = .ok (.lstore_n 0, 1) := by decide +kernel
theorem dJ13_bitCount_95d88_34 : decode cJ13_bitCount_95d88 34 = .ok (.lload_n 0, 1) := by decide +kernel
theorem dJ13_bitCount_95d88_35 : decode cJ13_bitCount_95d88 35 = .ok (.lload_n 0, 1) := by decide +kernel
theorem dJ13_bitCount_95d88_36 : decode cJ13_bitCount_95d88 36 = .ok (.bipush 8, 2) := by decide +kernel
theorem dJ13_bitCount_95d88_38 : decode cJ13_bitCount_95d88 38 = .ok (.lushr, 1) := by decide +kernel
theorem dJ13_bitCount_95d88_39 : decode cJ13_bitCount_95d88 39 = .ok (.ladd, 1) := by decide +kernel
theorem dJ13_bitCount_95d88_40 : decode cJ13_bitCount_95d88 40 = .ok (.lstore_n 0, 1) := by decide +kernel
theorem dJ13_bitCount_95d88_41 : decode cJ13_bitCount_95d88 41 = .ok (.lload_n 0, 1) := by decide +kernel
theorem dJ13_bitCount_95d88_42 : decode cJ13_bitCount_95d88 42 = .ok (.lload_n 0, 1) := by decide +kernel
theorem dJ13_bitCount_95d88_43 : decode cJ13_bitCount_95d88 43 = .ok (.bipush 16, 2) := by decide +kernel
theorem dJ13_bitCount_95d88_45 : decode cJ13_bitCount_95d88 45 = .ok (.lushr, 1) := by decide +kernel
theorem dJ13_bitCount_95d88_46 : decode cJ13_bitCount_95d88 46 = .ok (.ladd, 1) := by decide +kernel
theorem dJ13_bitCount_95d88_47 : decode cJ13_bitCount_95d88 47 = .ok (.lstore_n 0, 1) := by decide +kernel
theorem dJ13_bitCount_95d88_48 : decode cJ13_bitCount_95d88 48 = .ok (.lload_n 0, 1) := by decide +kernel
theorem dJ13_bitCount_95d88_49 : decode cJ13_bitCount_95d88 49 = .ok (.lload_n 0, 1) := by decide +kernel
theorem dJ13_bitCount_95d88_50 : decode cJ13_bitCount_95d88 50 = .ok (.bipush 32, 2) := by decide +kernel
theorem dJ13_bitCount_95d88_52 : decode cJ13_bitCount_95d88 52 = .ok (.lushr, 1) := by decide +kernel
theorem dJ13_bitCount_95d88_53 : decode cJ13_bitCount_95d88 53 = .ok (.ladd, 1) := by decide +kernel
theorem dJ13_bitCount_95d88_54 : decode cJ13_bitCount_95d88 54 = .ok (.lstore_n 0, 1) := by decide +kernel
theorem dJ13_bitCount_95d88_55 : decode cJ13_bitCount_95d88 55 = .ok (.lload_n 0, 1) := by decide +kernel
theorem dJ13_bitCount_95d88_56 : decode cJ13_bitCount_95d88 56 = .ok (.l2i, 1) := by decide +kernel
theorem dJ13_bitCount_95d88_57 : decode cJ13_bitCount_95d88 57 = .ok (.bipush 127, 2) := by decide +kernel
theorem dJ13_bitCount_95d88_59 : decode cJ13_bitCount_95d88 59 = .ok (.iand, 1) := by decide +kernel
theorem dJ13_bitCount_95d88_60 : decode cJ13_bitCount_95d88 60 = .ok (.ireturn, 1) := by decide +kernel
theorem dJ9_abs_0f7a4_0 : decode cJ9_abs_0f7a4 0 = .ok (.iload_n 0, 1) := by decide +kernel
theorem dJ9_abs_0f7a4_1 : decode cJ9_abs_0f7a4 1 = .ok (.ifCond .ge 8, 3) := by decide +kernel
theorem dJ9_abs_0f7a4_4 : decode cJ9_abs_0f7a4 4 = .ok (.iload_n 0, 1) := by decide +kernel
theorem dJ9_abs_0f7a4_5 : decode cJ9_abs_0f7a4 5 = .ok (.ineg, 1) := by decide +kernel
theorem dJ9_abs_0f7a4_6 : decode cJ9_abs_0f7a4 6 = .ok (.goto 4, 3) := by decide +kernel
theorem dJ9_abs_0f7a4_9 : decode cJ9_abs_0f7a4 9 = .ok (.iload_n 0, 1) := by decide +kernel
theorem dJ9_abs_0f7a4_10 : decode cJ9_abs_0f7a4 10 = .ok (.ireturn, 1) := by decide +kernel
theorem dJ9_max_7cf53_0 : decode cJ9_max_7cf53 0 = .ok (.iload_n 0, 1) := by decide +kernel
theorem dJ9_max_7cf53_1 : decode cJ9_max_7cf53 1 = .ok (.iload_n 1, 1) := by decide +kernel
theorem dJ9_max_7cf53_2 : decode cJ9_max_7cf53 2 = .ok (.if_icmp .lt 7, 3) := by decide +kernel
theorem dJ9_max_7cf53_5 : decode cJ9_max_7cf53 5 = .ok (.iload_n 0, 1) := by decide +kernel
theorem dJ9_max_7cf53_6 : decode cJ9_max_7cf53 6 = .ok (.goto 4, 3) := by decide +kernel
theorem dJ9_max_7cf53_9 : decode cJ9_max_7cf53 9 = .ok (.iload_n 1, 1) := by decide +kernel
theorem dJ9_max_7cf53_10 : decode cJ9_max_7cf53 10 = .ok (.ireturn, 1) := by decide +kernel
theorem dL_law_0 : decode cL_law 0 = .ok (.new 7, 3) := by decide +kernel
theorem dL_law_3 : decode cL_law 3 = .ok (.dup, 1) := by decide +kernel
theorem dL_law_4 : decode cL_law 4 = .ok (.invokespecial 9, 3) := by decide +kernel
theorem dL_law_7 : decode cL_law 7 = .ok (.astore_n 1, 1) := by decide +kernel
theorem dL_law_8 : decode cL_law 8 = .ok (.new 10, 3) := by decide +kernel
theorem dL_law_11 : decode cL_law 11 = .ok (.dup, 1) := by decide +kernel
theorem dL_law_12 : decode cL_law 12 = .ok (.invokespecial 12, 3) := by decide +kernel
theorem dL_law_15 : decode cL_law 15 = .ok (.astore_n 2, 1) := by decide +kernel
theorem dL_law_16 : decode cL_law 16 = .ok (.iconst 0, 1) := by decide +kernel
theorem dL_law_17 : decode cL_law 17 = .ok (.istore_n 3, 1) := by decide +kernel
theorem dL_law_18 : decode cL_law 18 = .ok (.iload_n 3, 1) := by decide +kernel
theorem dL_law_19 : decode cL_law 19 = .ok (.aload_n 0, 1) := by decide +kernel
theorem dL_law_20 : decode cL_law 20 = .ok (.arraylength, 1) := by decide +kernel
theorem dL_law_21 : decode cL_law 21 = .ok (.iconst 3, 1) := by decide +kernel
theorem dL_law_22 : decode cL_law 22 = .ok (.isub, 1) := by decide +kernel
theorem dL_law_23 : decode cL_law 23 = .ok (.if_icmp .gt 1009, 3) := by decide +kernel
theorem dL_law_26 : decode cL_law 26 = .ok (.aload_n 0, 1) := by decide +kernel
theorem dL_law_27 : decode cL_law 27 = .ok (.iload_n 3, 1) := by decide +kernel
theorem dL_law_28 : decode cL_law 28 = .ok (.iaload, 1) := by decide +kernel
theorem dL_law_29 : decode cL_law 29 = .ok (.bipush 63, 2) := by decide +kernel
theorem dL_law_31 : decode cL_law 31 = .ok (.iand, 1) := by decide +kernel
theorem dL_law_32 : decode cL_law 32 = .ok (.tableswitch 994 0 32 #[148, 171, 184, 197, 210, 243, 266, 299, 322, 355, 378, 411, 444, 477, 500, 533, 566, 589, 612, 645, 668, 681, 704, 727, 740, 789, 822, 855, 878, 911, 944, 957, 980], 148) := by decide +kernel
theorem dL_law_180 : decode cL_law 180 = .ok (.aload_n 1, 1) := by decide +kernel
theorem dL_law_181 : decode cL_law 181 = .ok (.aload_n 0, 1) := by decide +kernel
theorem dL_law_182 : decode cL_law 182 = .ok (.iload_n 3, 1) := by decide +kernel
theorem dL_law_183 : decode cL_law 183 = .ok (.iconst 1, 1) := by decide +kernel
theorem dL_law_184 : decode cL_law 184 = .ok (.iadd, 1) := by decide +kernel
theorem dL_law_185 : decode cL_law 185 = .ok (.iaload, 1) := by decide +kernel
theorem dL_law_186 : decode cL_law 186 = .ok (.invokevirtual 13, 3) := by decide +kernel
theorem dL_law_189 : decode cL_law 189 = .ok (.aload_n 2, 1) := by decide +kernel
theorem dL_law_190 : decode cL_law 190 = .ok (.aload_n 0, 1) := by decide +kernel
theorem dL_law_191 : decode cL_law 191 = .ok (.iload_n 3, 1) := by decide +kernel
theorem dL_law_192 : decode cL_law 192 = .ok (.iconst 1, 1) := by decide +kernel
theorem dL_law_193 : decode cL_law 193 = .ok (.iadd, 1) := by decide +kernel
theorem dL_law_194 : decode cL_law 194 = .ok (.iaload, 1) := by decide +kernel
theorem dL_law_195 : decode cL_law 195 = .ok (.invokevirtual 17, 3) := by decide +kernel
theorem dL_law_198 : decode cL_law 198 = .ok (.if_icmp .eq 828, 3) := by decide +kernel
theorem dL_law_201 : decode cL_law 201 = .ok (.iconst 0, 1) := by decide +kernel
theorem dL_law_202 : decode cL_law 202 = .ok (.ireturn, 1) := by decide +kernel
theorem dL_law_203 : decode cL_law 203 = .ok (.aload_n 1, 1) := by decide +kernel
theorem dL_law_204 : decode cL_law 204 = .ok (.invokevirtual 18, 3) := by decide +kernel
theorem dL_law_207 : decode cL_law 207 = .ok (.aload_n 2, 1) := by decide +kernel
theorem dL_law_208 : decode cL_law 208 = .ok (.invokevirtual 22, 3) := by decide +kernel
theorem dL_law_211 : decode cL_law 211 = .ok (.if_icmp .eq 815, 3) := by decide +kernel
theorem dL_law_214 : decode cL_law 214 = .ok (.iconst 0, 1) := by decide +kernel
theorem dL_law_215 : decode cL_law 215 = .ok (.ireturn, 1) := by decide +kernel
theorem dL_law_216 : decode cL_law 216 = .ok (.aload_n 1, 1) := by decide +kernel
theorem dL_law_217 : decode cL_law 217 = .ok (.invokevirtual 23, 3) := by decide +kernel
theorem dL_law_220 : decode cL_law 220 = .ok (.aload_n 2, 1) := by decide +kernel
theorem dL_law_221 : decode cL_law 221 = .ok (.invokevirtual 26, 3) := by decide +kernel
theorem dL_law_224 : decode cL_law 224 = .ok (.if_icmp .eq 802, 3) := by decide +kernel
theorem dL_law_227 : decode cL_law 227 = .ok (.iconst 0, 1) := by decide +kernel
theorem dL_law_228 : decode cL_law 228 = .ok (.ireturn, 1) := by decide +kernel
theorem dL_law_229 : decode cL_law 229 = .ok (.aload_n 1, 1) := by decide +kernel
theorem dL_law_230 : decode cL_law 230 = .ok (.invokevirtual 27, 3) := by decide +kernel
theorem dL_law_233 : decode cL_law 233 = .ok (.aload_n 2, 1) := by decide +kernel
theorem dL_law_234 : decode cL_law 234 = .ok (.invokevirtual 30, 3) := by decide +kernel
theorem dL_law_237 : decode cL_law 237 = .ok (.if_icmp .eq 789, 3) := by decide +kernel
theorem dL_law_240 : decode cL_law 240 = .ok (.iconst 0, 1) := by decide +kernel
theorem dL_law_241 : decode cL_law 241 = .ok (.ireturn, 1) := by decide +kernel
theorem dL_law_242 : decode cL_law 242 = .ok (.aload_n 1, 1) := by decide +kernel
theorem dL_law_243 : decode cL_law 243 = .ok (.aload_n 0, 1) := by decide +kernel
theorem dL_law_244 : decode cL_law 244 = .ok (.iload_n 3, 1) := by decide +kernel
theorem dL_law_245 : decode cL_law 245 = .ok (.iconst 1, 1) := by decide +kernel
theorem dL_law_246 : decode cL_law 246 = .ok (.iadd, 1) := by decide +kernel
theorem dL_law_247 : decode cL_law 247 = .ok (.iaload, 1) := by decide +kernel
theorem dL_law_248 : decode cL_law 248 = .ok (.aload_n 0, 1) := by decide +kernel
theorem dL_law_249 : decode cL_law 249 = .ok (.iload_n 3, 1) := by decide +kernel
theorem dL_law_250 : decode cL_law 250 = .ok (.iconst 2, 1) := by decide +kernel
theorem dL_law_251 : decode cL_law 251 = .ok (.iadd, 1) := by decide +kernel
theorem dL_law_252 : decode cL_law 252 = .ok (.iaload, 1) := by decide +kernel
theorem dL_law_253 : decode cL_law 253 = .ok (.invokevirtual 31, 3) := by decide +kernel
theorem dL_law_256 : decode cL_law 256 = .ok (.aload_n 2, 1) := by decide +kernel
theorem dL_law_257 : decode cL_law 257 = .ok (.aload_n 0, 1) := by decide +kernel
theorem dL_law_258 : decode cL_law 258 = .ok (.iload_n 3, 1) := by decide +kernel
theorem dL_law_259 : decode cL_law 259 = .ok (.iconst 1, 1) := by decide +kernel
theorem dL_law_260 : decode cL_law 260 = .ok (.iadd, 1) := by decide +kernel
theorem dL_law_261 : decode cL_law 261 = .ok (.iaload, 1) := by decide +kernel
theorem dL_law_262 : decode cL_law 262 = .ok (.aload_n 0, 1) := by decide +kernel
theorem dL_law_263 : decode cL_law 263 = .ok (.iload_n 3, 1) := by decide +kernel
theorem dL_law_264 : decode cL_law 264 = .ok (.iconst 2, 1) := by decide +kernel
theorem dL_law_265 : decode cL_law 265 = .ok (.iadd, 1) := by decide +kernel
theorem dL_law_266 : decode cL_law 266 = .ok (.iaload, 1) := by decide +kernel
theorem dL_law_267 : decode cL_law 267 = .ok (.invokevirtual 35, 3) := by decide +kernel
theorem dL_law_270 : decode cL_law 270 = .ok (.if_icmp .eq 756, 3) := by decide +kernel
theorem dL_law_273 : decode cL_law 273 = .ok (.iconst 0, 1) := by decide +kernel
theorem dL_law_274 : decode cL_law 274 = .ok (.ireturn, 1) := by decide +kernel
theorem dL_law_275 : decode cL_law 275 = .ok (.aload_n 1, 1) := by decide +kernel
theorem dL_law_276 : decode cL_law 276 = .ok (.aload_n 0, 1) := by decide +kernel
theorem dL_law_277 : decode cL_law 277 = .ok (.iload_n 3, 1) := by decide +kernel
theorem dL_law_278 : decode cL_law 278 = .ok (.iconst 1, 1) := by decide +kernel
theorem dL_law_279 : decode cL_law 279 = .ok (.iadd, 1) := by decide +kernel
theorem dL_law_280 : decode cL_law 280 = .ok (.iaload, 1) := by decide +kernel
theorem dL_law_281 : decode cL_law 281 = .ok (.invokevirtual 36, 3) := by decide +kernel
theorem dL_law_284 : decode cL_law 284 = .ok (.aload_n 2, 1) := by decide +kernel
theorem dL_law_285 : decode cL_law 285 = .ok (.aload_n 0, 1) := by decide +kernel
theorem dL_law_286 : decode cL_law 286 = .ok (.iload_n 3, 1) := by decide +kernel
theorem dL_law_287 : decode cL_law 287 = .ok (.iconst 1, 1) := by decide +kernel
theorem dL_law_288 : decode cL_law 288 = .ok (.iadd, 1) := by decide +kernel
theorem dL_law_289 : decode cL_law 289 = .ok (.iaload, 1) := by decide +kernel
theorem dL_law_290 : decode cL_law 290 = .ok (.invokevirtual 39, 3) := by decide +kernel
theorem dL_law_293 : decode cL_law 293 = .ok (.if_icmp .eq 733, 3) := by decide +kernel
theorem dL_law_296 : decode cL_law 296 = .ok (.iconst 0, 1) := by decide +kernel
theorem dL_law_297 : decode cL_law 297 = .ok (.ireturn, 1) := by decide +kernel
theorem dL_law_298 : decode cL_law 298 = .ok (.aload_n 1, 1) := by decide +kernel
theorem dL_law_299 : decode cL_law 299 = .ok (.aload_n 0, 1) := by decide +kernel
theorem dL_law_300 : decode cL_law 300 = .ok (.iload_n 3, 1) := by decide +kernel
theorem dL_law_301 : decode cL_law 301 = .ok (.iconst 1, 1) := by decide +kernel
theorem dL_law_302 : decode cL_law 302 = .ok (.iadd, 1) := by decide +kernel
theorem dL_law_303 : decode cL_law 303 = .ok (.iaload, 1) := by decide +kernel
theorem dL_law_304 : decode cL_law 304 = .ok (.aload_n 0, 1) := by decide +kernel
theorem dL_law_305 : decode cL_law 305 = .ok (.iload_n 3, 1) := by decide +kernel
theorem dL_law_306 : decode cL_law 306 = .ok (.iconst 2, 1) := by decide +kernel
theorem dL_law_307 : decode cL_law 307 = .ok (.iadd, 1) := by decide +kernel
theorem dL_law_308 : decode cL_law 308 = .ok (.iaload, 1) := by decide +kernel
theorem dL_law_309 : decode cL_law 309 = .ok (.invokevirtual 40, 3) := by decide +kernel
theorem dL_law_312 : decode cL_law 312 = .ok (.aload_n 2, 1) := by decide +kernel
theorem dL_law_313 : decode cL_law 313 = .ok (.aload_n 0, 1) := by decide +kernel
theorem dL_law_314 : decode cL_law 314 = .ok (.iload_n 3, 1) := by decide +kernel
theorem dL_law_315 : decode cL_law 315 = .ok (.iconst 1, 1) := by decide +kernel
theorem dL_law_316 : decode cL_law 316 = .ok (.iadd, 1) := by decide +kernel
theorem dL_law_317 : decode cL_law 317 = .ok (.iaload, 1) := by decide +kernel
theorem dL_law_318 : decode cL_law 318 = .ok (.aload_n 0, 1) := by decide +kernel
theorem dL_law_319 : decode cL_law 319 = .ok (.iload_n 3, 1) := by decide +kernel
theorem dL_law_320 : decode cL_law 320 = .ok (.iconst 2, 1) := by decide +kernel
theorem dL_law_321 : decode cL_law 321 = .ok (.iadd, 1) := by decide +kernel
theorem dL_law_322 : decode cL_law 322 = .ok (.iaload, 1) := by decide +kernel
theorem dL_law_323 : decode cL_law 323 = .ok (.invokevirtual 43, 3) := by decide +kernel
theorem dL_law_326 : decode cL_law 326 = .ok (.if_icmp .eq 700, 3) := by decide +kernel
theorem dL_law_329 : decode cL_law 329 = .ok (.iconst 0, 1) := by decide +kernel
theorem dL_law_330 : decode cL_law 330 = .ok (.ireturn, 1) := by decide +kernel
theorem dL_law_331 : decode cL_law 331 = .ok (.aload_n 1, 1) := by decide +kernel
theorem dL_law_332 : decode cL_law 332 = .ok (.aload_n 0, 1) := by decide +kernel
theorem dL_law_333 : decode cL_law 333 = .ok (.iload_n 3, 1) := by decide +kernel
theorem dL_law_334 : decode cL_law 334 = .ok (.iconst 1, 1) := by decide +kernel
theorem dL_law_335 : decode cL_law 335 = .ok (.iadd, 1) := by decide +kernel
theorem dL_law_336 : decode cL_law 336 = .ok (.iaload, 1) := by decide +kernel
theorem dL_law_337 : decode cL_law 337 = .ok (.invokevirtual 44, 3) := by decide +kernel
theorem dL_law_340 : decode cL_law 340 = .ok (.aload_n 2, 1) := by decide +kernel
theorem dL_law_341 : decode cL_law 341 = .ok (.aload_n 0, 1) := by decide +kernel
theorem dL_law_342 : decode cL_law 342 = .ok (.iload_n 3, 1) := by decide +kernel
theorem dL_law_343 : decode cL_law 343 = .ok (.iconst 1, 1) := by decide +kernel
theorem dL_law_344 : decode cL_law 344 = .ok (.iadd, 1) := by decide +kernel
theorem dL_law_345 : decode cL_law 345 = .ok (.iaload, 1) := by decide +kernel
theorem dL_law_346 : decode cL_law 346 = .ok (.invokevirtual 47, 3) := by decide +kernel
theorem dL_law_349 : decode cL_law 349 = .ok (.if_icmp .eq 677, 3) := by decide +kernel
theorem dL_law_352 : decode cL_law 352 = .ok (.iconst 0, 1) := by decide +kernel
theorem dL_law_353 : decode cL_law 353 = .ok (.ireturn, 1) := by decide +kernel
theorem dL_law_354 : decode cL_law 354 = .ok (.aload_n 1, 1) := by decide +kernel
theorem dL_law_355 : decode cL_law 355 = .ok (.aload_n 0, 1) := by decide +kernel
theorem dL_law_356 : decode cL_law 356 = .ok (.iload_n 3, 1) := by decide +kernel
theorem dL_law_357 : decode cL_law 357 = .ok (.iconst 1, 1) := by decide +kernel
theorem dL_law_358 : decode cL_law 358 = .ok (.iadd, 1) := by decide +kernel
theorem dL_law_359 : decode cL_law 359 = .ok (.iaload, 1) := by decide +kernel
theorem dL_law_360 : decode cL_law 360 = .ok (.aload_n 0, 1) := by decide +kernel
theorem dL_law_361 : decode cL_law 361 = .ok (.iload_n 3, 1) := by decide +kernel
theorem dL_law_362 : decode cL_law 362 = .ok (.iconst 2, 1) := by decide +kernel
theorem dL_law_363 : decode cL_law 363 = .ok (.iadd, 1) := by decide +kernel
theorem dL_law_364 : decode cL_law 364 = .ok (.iaload, 1) := by decide +kernel
theorem dL_law_365 : decode cL_law 365 = .ok (.invokevirtual 48, 3) := by decide +kernel
theorem dL_law_368 : decode cL_law 368 = .ok (.aload_n 2, 1) := by decide +kernel
theorem dL_law_369 : decode cL_law 369 = .ok (.aload_n 0, 1) := by decide +kernel
theorem dL_law_370 : decode cL_law 370 = .ok (.iload_n 3, 1) := by decide +kernel
theorem dL_law_371 : decode cL_law 371 = .ok (.iconst 1, 1) := by decide +kernel
theorem dL_law_372 : decode cL_law 372 = .ok (.iadd, 1) := by decide +kernel
theorem dL_law_373 : decode cL_law 373 = .ok (.iaload, 1) := by decide +kernel
theorem dL_law_374 : decode cL_law 374 = .ok (.aload_n 0, 1) := by decide +kernel
theorem dL_law_375 : decode cL_law 375 = .ok (.iload_n 3, 1) := by decide +kernel
theorem dL_law_376 : decode cL_law 376 = .ok (.iconst 2, 1) := by decide +kernel
theorem dL_law_377 : decode cL_law 377 = .ok (.iadd, 1) := by decide +kernel
theorem dL_law_378 : decode cL_law 378 = .ok (.iaload, 1) := by decide +kernel
theorem dL_law_379 : decode cL_law 379 = .ok (.invokevirtual 51, 3) := by decide +kernel
theorem dL_law_382 : decode cL_law 382 = .ok (.if_icmp .eq 644, 3) := by decide +kernel
theorem dL_law_385 : decode cL_law 385 = .ok (.iconst 0, 1) := by decide +kernel
theorem dL_law_386 : decode cL_law 386 = .ok (.ireturn, 1) := by decide +kernel
theorem dL_law_387 : decode cL_law 387 = .ok (.aload_n 1, 1) := by decide +kernel
theorem dL_law_388 : decode cL_law 388 = .ok (.aload_n 0, 1) := by decide +kernel
theorem dL_law_389 : decode cL_law 389 = .ok (.iload_n 3, 1) := by decide +kernel
theorem dL_law_390 : decode cL_law 390 = .ok (.iconst 1, 1) := by decide +kernel
theorem dL_law_391 : decode cL_law 391 = .ok (.iadd, 1) := by decide +kernel
theorem dL_law_392 : decode cL_law 392 = .ok (.iaload, 1) := by decide +kernel
theorem dL_law_393 : decode cL_law 393 = .ok (.invokevirtual 52, 3) := by decide +kernel
theorem dL_law_396 : decode cL_law 396 = .ok (.aload_n 2, 1) := by decide +kernel
theorem dL_law_397 : decode cL_law 397 = .ok (.aload_n 0, 1) := by decide +kernel
theorem dL_law_398 : decode cL_law 398 = .ok (.iload_n 3, 1) := by decide +kernel
theorem dL_law_399 : decode cL_law 399 = .ok (.iconst 1, 1) := by decide +kernel
theorem dL_law_400 : decode cL_law 400 = .ok (.iadd, 1) := by decide +kernel
theorem dL_law_401 : decode cL_law 401 = .ok (.iaload, 1) := by decide +kernel
theorem dL_law_402 : decode cL_law 402 = .ok (.invokevirtual 55, 3) := by decide +kernel
theorem dL_law_405 : decode cL_law 405 = .ok (.if_icmp .eq 621, 3) := by decide +kernel
theorem dL_law_408 : decode cL_law 408 = .ok (.iconst 0, 1) := by decide +kernel
theorem dL_law_409 : decode cL_law 409 = .ok (.ireturn, 1) := by decide +kernel
theorem dL_law_410 : decode cL_law 410 = .ok (.aload_n 1, 1) := by decide +kernel
theorem dL_law_411 : decode cL_law 411 = .ok (.aload_n 0, 1) := by decide +kernel
theorem dL_law_412 : decode cL_law 412 = .ok (.iload_n 3, 1) := by decide +kernel
theorem dL_law_413 : decode cL_law 413 = .ok (.iconst 1, 1) := by decide +kernel
theorem dL_law_414 : decode cL_law 414 = .ok (.iadd, 1) := by decide +kernel
theorem dL_law_415 : decode cL_law 415 = .ok (.iaload, 1) := by decide +kernel
theorem dL_law_416 : decode cL_law 416 = .ok (.aload_n 0, 1) := by decide +kernel
theorem dL_law_417 : decode cL_law 417 = .ok (.iload_n 3, 1) := by decide +kernel
theorem dL_law_418 : decode cL_law 418 = .ok (.iconst 2, 1) := by decide +kernel
theorem dL_law_419 : decode cL_law 419 = .ok (.iadd, 1) := by decide +kernel
theorem dL_law_420 : decode cL_law 420 = .ok (.iaload, 1) := by decide +kernel
theorem dL_law_421 : decode cL_law 421 = .ok (.invokevirtual 56, 3) := by decide +kernel
theorem dL_law_424 : decode cL_law 424 = .ok (.aload_n 2, 1) := by decide +kernel
theorem dL_law_425 : decode cL_law 425 = .ok (.aload_n 0, 1) := by decide +kernel
theorem dL_law_426 : decode cL_law 426 = .ok (.iload_n 3, 1) := by decide +kernel
theorem dL_law_427 : decode cL_law 427 = .ok (.iconst 1, 1) := by decide +kernel
theorem dL_law_428 : decode cL_law 428 = .ok (.iadd, 1) := by decide +kernel
theorem dL_law_429 : decode cL_law 429 = .ok (.iaload, 1) := by decide +kernel
theorem dL_law_430 : decode cL_law 430 = .ok (.aload_n 0, 1) := by decide +kernel
theorem dL_law_431 : decode cL_law 431 = .ok (.iload_n 3, 1) := by decide +kernel
theorem dL_law_432 : decode cL_law 432 = .ok (.iconst 2, 1) := by decide +kernel
theorem dL_law_433 : decode cL_law 433 = .ok (.iadd, 1) := by decide +kernel
theorem dL_law_434 : decode cL_law 434 = .ok (.iaload, 1) := by decide +kernel
theorem dL_law_435 : decode cL_law 435 = .ok (.invokevirtual 59, 3) := by decide +kernel
theorem dL_law_438 : decode cL_law 438 = .ok (.if_icmp .eq 588, 3) := by decide +kernel
theorem dL_law_441 : decode cL_law 441 = .ok (.iconst 0, 1) := by decide +kernel
theorem dL_law_442 : decode cL_law 442 = .ok (.ireturn, 1) := by decide +kernel
theorem dL_law_443 : decode cL_law 443 = .ok (.aload_n 1, 1) := by decide +kernel
theorem dL_law_444 : decode cL_law 444 = .ok (.aload_n 0, 1) := by decide +kernel
theorem dL_law_445 : decode cL_law 445 = .ok (.iload_n 3, 1) := by decide +kernel
theorem dL_law_446 : decode cL_law 446 = .ok (.iconst 1, 1) := by decide +kernel
theorem dL_law_447 : decode cL_law 447 = .ok (.iadd, 1) := by decide +kernel
theorem dL_law_448 : decode cL_law 448 = .ok (.iaload, 1) := by decide +kernel
theorem dL_law_449 : decode cL_law 449 = .ok (.aload_n 0, 1) := by decide +kernel
theorem dL_law_450 : decode cL_law 450 = .ok (.iload_n 3, 1) := by decide +kernel
theorem dL_law_451 : decode cL_law 451 = .ok (.iconst 2, 1) := by decide +kernel
theorem dL_law_452 : decode cL_law 452 = .ok (.iadd, 1) := by decide +kernel
theorem dL_law_453 : decode cL_law 453 = .ok (.iaload, 1) := by decide +kernel
theorem dL_law_454 : decode cL_law 454 = .ok (.invokevirtual 60, 3) := by decide +kernel
theorem dL_law_457 : decode cL_law 457 = .ok (.aload_n 2, 1) := by decide +kernel
theorem dL_law_458 : decode cL_law 458 = .ok (.aload_n 0, 1) := by decide +kernel
theorem dL_law_459 : decode cL_law 459 = .ok (.iload_n 3, 1) := by decide +kernel
theorem dL_law_460 : decode cL_law 460 = .ok (.iconst 1, 1) := by decide +kernel
theorem dL_law_461 : decode cL_law 461 = .ok (.iadd, 1) := by decide +kernel
theorem dL_law_462 : decode cL_law 462 = .ok (.iaload, 1) := by decide +kernel
theorem dL_law_463 : decode cL_law 463 = .ok (.aload_n 0, 1) := by decide +kernel
theorem dL_law_464 : decode cL_law 464 = .ok (.iload_n 3, 1) := by decide +kernel
theorem dL_law_465 : decode cL_law 465 = .ok (.iconst 2, 1) := by decide +kernel
theorem dL_law_466 : decode cL_law 466 = .ok (.iadd, 1) := by decide +kernel
theorem dL_law_467 : decode cL_law 467 = .ok (.iaload, 1) := by decide +kernel
theorem dL_law_468 : decode cL_law 468 = .ok (.invokevirtual 63, 3) := by decide +kernel
theorem dL_law_471 : decode cL_law 471 = .ok (.if_icmp .eq 555, 3) := by decide +kernel
theorem dL_law_474 : decode cL_law 474 = .ok (.iconst 0, 1) := by decide +kernel
theorem dL_law_475 : decode cL_law 475 = .ok (.ireturn, 1) := by decide +kernel
theorem dL_law_476 : decode cL_law 476 = .ok (.aload_n 1, 1) := by decide +kernel
theorem dL_law_477 : decode cL_law 477 = .ok (.aload_n 0, 1) := by decide +kernel
theorem dL_law_478 : decode cL_law 478 = .ok (.iload_n 3, 1) := by decide +kernel
theorem dL_law_479 : decode cL_law 479 = .ok (.iconst 1, 1) := by decide +kernel
theorem dL_law_480 : decode cL_law 480 = .ok (.iadd, 1) := by decide +kernel
theorem dL_law_481 : decode cL_law 481 = .ok (.iaload, 1) := by decide +kernel
theorem dL_law_482 : decode cL_law 482 = .ok (.aload_n 0, 1) := by decide +kernel
theorem dL_law_483 : decode cL_law 483 = .ok (.iload_n 3, 1) := by decide +kernel
theorem dL_law_484 : decode cL_law 484 = .ok (.iconst 2, 1) := by decide +kernel
theorem dL_law_485 : decode cL_law 485 = .ok (.iadd, 1) := by decide +kernel
theorem dL_law_486 : decode cL_law 486 = .ok (.iaload, 1) := by decide +kernel
theorem dL_law_487 : decode cL_law 487 = .ok (.invokevirtual 64, 3) := by decide +kernel
theorem dL_law_490 : decode cL_law 490 = .ok (.aload_n 2, 1) := by decide +kernel
theorem dL_law_491 : decode cL_law 491 = .ok (.aload_n 0, 1) := by decide +kernel
theorem dL_law_492 : decode cL_law 492 = .ok (.iload_n 3, 1) := by decide +kernel
theorem dL_law_493 : decode cL_law 493 = .ok (.iconst 1, 1) := by decide +kernel
theorem dL_law_494 : decode cL_law 494 = .ok (.iadd, 1) := by decide +kernel
theorem dL_law_495 : decode cL_law 495 = .ok (.iaload, 1) := by decide +kernel
theorem dL_law_496 : decode cL_law 496 = .ok (.aload_n 0, 1) := by decide +kernel
theorem dL_law_497 : decode cL_law 497 = .ok (.iload_n 3, 1) := by decide +kernel
theorem dL_law_498 : decode cL_law 498 = .ok (.iconst 2, 1) := by decide +kernel
theorem dL_law_499 : decode cL_law 499 = .ok (.iadd, 1) := by decide +kernel
theorem dL_law_500 : decode cL_law 500 = .ok (.iaload, 1) := by decide +kernel
theorem dL_law_501 : decode cL_law 501 = .ok (.invokevirtual 67, 3) := by decide +kernel
theorem dL_law_504 : decode cL_law 504 = .ok (.if_icmp .eq 522, 3) := by decide +kernel
theorem dL_law_507 : decode cL_law 507 = .ok (.iconst 0, 1) := by decide +kernel
theorem dL_law_508 : decode cL_law 508 = .ok (.ireturn, 1) := by decide +kernel
theorem dL_law_509 : decode cL_law 509 = .ok (.aload_n 1, 1) := by decide +kernel
theorem dL_law_510 : decode cL_law 510 = .ok (.aload_n 0, 1) := by decide +kernel
theorem dL_law_511 : decode cL_law 511 = .ok (.iload_n 3, 1) := by decide +kernel
theorem dL_law_512 : decode cL_law 512 = .ok (.iconst 1, 1) := by decide +kernel
theorem dL_law_513 : decode cL_law 513 = .ok (.iadd, 1) := by decide +kernel
theorem dL_law_514 : decode cL_law 514 = .ok (.iaload, 1) := by decide +kernel
theorem dL_law_515 : decode cL_law 515 = .ok (.invokevirtual 68, 3) := by decide +kernel
theorem dL_law_518 : decode cL_law 518 = .ok (.aload_n 2, 1) := by decide +kernel
theorem dL_law_519 : decode cL_law 519 = .ok (.aload_n 0, 1) := by decide +kernel
theorem dL_law_520 : decode cL_law 520 = .ok (.iload_n 3, 1) := by decide +kernel
theorem dL_law_521 : decode cL_law 521 = .ok (.iconst 1, 1) := by decide +kernel
theorem dL_law_522 : decode cL_law 522 = .ok (.iadd, 1) := by decide +kernel
theorem dL_law_523 : decode cL_law 523 = .ok (.iaload, 1) := by decide +kernel
theorem dL_law_524 : decode cL_law 524 = .ok (.invokevirtual 71, 3) := by decide +kernel
theorem dL_law_527 : decode cL_law 527 = .ok (.if_icmp .eq 499, 3) := by decide +kernel
theorem dL_law_530 : decode cL_law 530 = .ok (.iconst 0, 1) := by decide +kernel
theorem dL_law_531 : decode cL_law 531 = .ok (.ireturn, 1) := by decide +kernel
theorem dL_law_532 : decode cL_law 532 = .ok (.aload_n 1, 1) := by decide +kernel
theorem dL_law_533 : decode cL_law 533 = .ok (.aload_n 0, 1) := by decide +kernel
theorem dL_law_534 : decode cL_law 534 = .ok (.iload_n 3, 1) := by decide +kernel
theorem dL_law_535 : decode cL_law 535 = .ok (.iconst 1, 1) := by decide +kernel
theorem dL_law_536 : decode cL_law 536 = .ok (.iadd, 1) := by decide +kernel
theorem dL_law_537 : decode cL_law 537 = .ok (.iaload, 1) := by decide +kernel
theorem dL_law_538 : decode cL_law 538 = .ok (.aload_n 0, 1) := by decide +kernel
theorem dL_law_539 : decode cL_law 539 = .ok (.iload_n 3, 1) := by decide +kernel
theorem dL_law_540 : decode cL_law 540 = .ok (.iconst 2, 1) := by decide +kernel
theorem dL_law_541 : decode cL_law 541 = .ok (.iadd, 1) := by decide +kernel
theorem dL_law_542 : decode cL_law 542 = .ok (.iaload, 1) := by decide +kernel
theorem dL_law_543 : decode cL_law 543 = .ok (.invokevirtual 72, 3) := by decide +kernel
theorem dL_law_546 : decode cL_law 546 = .ok (.aload_n 2, 1) := by decide +kernel
theorem dL_law_547 : decode cL_law 547 = .ok (.aload_n 0, 1) := by decide +kernel
theorem dL_law_548 : decode cL_law 548 = .ok (.iload_n 3, 1) := by decide +kernel
theorem dL_law_549 : decode cL_law 549 = .ok (.iconst 1, 1) := by decide +kernel
theorem dL_law_550 : decode cL_law 550 = .ok (.iadd, 1) := by decide +kernel
theorem dL_law_551 : decode cL_law 551 = .ok (.iaload, 1) := by decide +kernel
theorem dL_law_552 : decode cL_law 552 = .ok (.aload_n 0, 1) := by decide +kernel
theorem dL_law_553 : decode cL_law 553 = .ok (.iload_n 3, 1) := by decide +kernel
theorem dL_law_554 : decode cL_law 554 = .ok (.iconst 2, 1) := by decide +kernel
theorem dL_law_555 : decode cL_law 555 = .ok (.iadd, 1) := by decide +kernel
theorem dL_law_556 : decode cL_law 556 = .ok (.iaload, 1) := by decide +kernel
theorem dL_law_557 : decode cL_law 557 = .ok (.invokevirtual 75, 3) := by decide +kernel
theorem dL_law_560 : decode cL_law 560 = .ok (.if_icmp .eq 466, 3) := by decide +kernel
theorem dL_law_563 : decode cL_law 563 = .ok (.iconst 0, 1) := by decide +kernel
theorem dL_law_564 : decode cL_law 564 = .ok (.ireturn, 1) := by decide +kernel
theorem dL_law_565 : decode cL_law 565 = .ok (.aload_n 1, 1) := by decide +kernel
theorem dL_law_566 : decode cL_law 566 = .ok (.aload_n 0, 1) := by decide +kernel
theorem dL_law_567 : decode cL_law 567 = .ok (.iload_n 3, 1) := by decide +kernel
theorem dL_law_568 : decode cL_law 568 = .ok (.iconst 1, 1) := by decide +kernel
theorem dL_law_569 : decode cL_law 569 = .ok (.iadd, 1) := by decide +kernel
theorem dL_law_570 : decode cL_law 570 = .ok (.iaload, 1) := by decide +kernel
theorem dL_law_571 : decode cL_law 571 = .ok (.aload_n 0, 1) := by decide +kernel
theorem dL_law_572 : decode cL_law 572 = .ok (.iload_n 3, 1) := by decide +kernel
theorem dL_law_573 : decode cL_law 573 = .ok (.iconst 2, 1) := by decide +kernel
theorem dL_law_574 : decode cL_law 574 = .ok (.iadd, 1) := by decide +kernel
theorem dL_law_575 : decode cL_law 575 = .ok (.iaload, 1) := by decide +kernel
theorem dL_law_576 : decode cL_law 576 = .ok (.invokevirtual 76, 3) := by decide +kernel
theorem dL_law_579 : decode cL_law 579 = .ok (.aload_n 2, 1) := by decide +kernel
theorem dL_law_580 : decode cL_law 580 = .ok (.aload_n 0, 1) := by decide +kernel
theorem dL_law_581 : decode cL_law 581 = .ok (.iload_n 3, 1) := by decide +kernel
theorem dL_law_582 : decode cL_law 582 = .ok (.iconst 1, 1) := by decide +kernel
theorem dL_law_583 : decode cL_law 583 = .ok (.iadd, 1) := by decide +kernel
theorem dL_law_584 : decode cL_law 584 = .ok (.iaload, 1) := by decide +kernel
theorem dL_law_585 : decode cL_law 585 = .ok (.aload_n 0, 1) := by decide +kernel
theorem dL_law_586 : decode cL_law 586 = .ok (.iload_n 3, 1) := by decide +kernel
theorem dL_law_587 : decode cL_law 587 = .ok (.iconst 2, 1) := by decide +kernel
theorem dL_law_588 : decode cL_law 588 = .ok (.iadd, 1) := by decide +kernel
theorem dL_law_589 : decode cL_law 589 = .ok (.iaload, 1) := by decide +kernel
theorem dL_law_590 : decode cL_law 590 = .ok (.invokevirtual 79, 3) := by decide +kernel
theorem dL_law_593 : decode cL_law 593 = .ok (.if_icmp .eq 433, 3) := by decide +kernel
theorem dL_law_596 : decode cL_law 596 = .ok (.iconst 0, 1) := by decide +kernel
theorem dL_law_597 : decode cL_law 597 = .ok (.ireturn, 1) := by decide +kernel
theorem dL_law_598 : decode cL_law 598 = .ok (.aload_n 1, 1) := by decide +kernel
theorem dL_law_599 : decode cL_law 599 = .ok (.aload_n 0, 1) := by decide +kernel
theorem dL_law_600 : decode cL_law 600 = .ok (.iload_n 3, 1) := by decide +kernel
theorem dL_law_601 : decode cL_law 601 = .ok (.iconst 1, 1) := by decide +kernel
theorem dL_law_602 : decode cL_law 602 = .ok (.iadd, 1) := by decide +kernel
theorem dL_law_603 : decode cL_law 603 = .ok (.iaload, 1) := by decide +kernel
theorem dL_law_604 : decode cL_law 604 = .ok (.invokevirtual 80, 3) := by decide +kernel
theorem dL_law_607 : decode cL_law 607 = .ok (.aload_n 2, 1) := by decide +kernel
theorem dL_law_608 : decode cL_law 608 = .ok (.aload_n 0, 1) := by decide +kernel
theorem dL_law_609 : decode cL_law 609 = .ok (.iload_n 3, 1) := by decide +kernel
theorem dL_law_610 : decode cL_law 610 = .ok (.iconst 1, 1) := by decide +kernel
theorem dL_law_611 : decode cL_law 611 = .ok (.iadd, 1) := by decide +kernel
theorem dL_law_612 : decode cL_law 612 = .ok (.iaload, 1) := by decide +kernel
theorem dL_law_613 : decode cL_law 613 = .ok (.invokevirtual 83, 3) := by decide +kernel
theorem dL_law_616 : decode cL_law 616 = .ok (.if_icmp .eq 410, 3) := by decide +kernel
theorem dL_law_619 : decode cL_law 619 = .ok (.iconst 0, 1) := by decide +kernel
theorem dL_law_620 : decode cL_law 620 = .ok (.ireturn, 1) := by decide +kernel
theorem dL_law_621 : decode cL_law 621 = .ok (.aload_n 1, 1) := by decide +kernel
theorem dL_law_622 : decode cL_law 622 = .ok (.aload_n 0, 1) := by decide +kernel
theorem dL_law_623 : decode cL_law 623 = .ok (.iload_n 3, 1) := by decide +kernel
theorem dL_law_624 : decode cL_law 624 = .ok (.iconst 1, 1) := by decide +kernel
theorem dL_law_625 : decode cL_law 625 = .ok (.iadd, 1) := by decide +kernel
theorem dL_law_626 : decode cL_law 626 = .ok (.iaload, 1) := by decide +kernel
theorem dL_law_627 : decode cL_law 627 = .ok (.invokevirtual 84, 3) := by decide +kernel
theorem dL_law_630 : decode cL_law 630 = .ok (.aload_n 2, 1) := by decide +kernel
theorem dL_law_631 : decode cL_law 631 = .ok (.aload_n 0, 1) := by decide +kernel
theorem dL_law_632 : decode cL_law 632 = .ok (.iload_n 3, 1) := by decide +kernel
theorem dL_law_633 : decode cL_law 633 = .ok (.iconst 1, 1) := by decide +kernel
theorem dL_law_634 : decode cL_law 634 = .ok (.iadd, 1) := by decide +kernel
theorem dL_law_635 : decode cL_law 635 = .ok (.iaload, 1) := by decide +kernel
theorem dL_law_636 : decode cL_law 636 = .ok (.invokevirtual 87, 3) := by decide +kernel
theorem dL_law_639 : decode cL_law 639 = .ok (.if_icmp .eq 387, 3) := by decide +kernel
theorem dL_law_642 : decode cL_law 642 = .ok (.iconst 0, 1) := by decide +kernel
theorem dL_law_643 : decode cL_law 643 = .ok (.ireturn, 1) := by decide +kernel
theorem dL_law_644 : decode cL_law 644 = .ok (.aload_n 1, 1) := by decide +kernel
theorem dL_law_645 : decode cL_law 645 = .ok (.aload_n 0, 1) := by decide +kernel
theorem dL_law_646 : decode cL_law 646 = .ok (.iload_n 3, 1) := by decide +kernel
theorem dL_law_647 : decode cL_law 647 = .ok (.iconst 1, 1) := by decide +kernel
theorem dL_law_648 : decode cL_law 648 = .ok (.iadd, 1) := by decide +kernel
theorem dL_law_649 : decode cL_law 649 = .ok (.iaload, 1) := by decide +kernel
theorem dL_law_650 : decode cL_law 650 = .ok (.aload_n 0, 1) := by decide +kernel
theorem dL_law_651 : decode cL_law 651 = .ok (.iload_n 3, 1) := by decide +kernel
theorem dL_law_652 : decode cL_law 652 = .ok (.iconst 2, 1) := by decide +kernel
theorem dL_law_653 : decode cL_law 653 = .ok (.iadd, 1) := by decide +kernel
theorem dL_law_654 : decode cL_law 654 = .ok (.iaload, 1) := by decide +kernel
theorem dL_law_655 : decode cL_law 655 = .ok (.invokevirtual 88, 3) := by decide +kernel
theorem dL_law_658 : decode cL_law 658 = .ok (.aload_n 2, 1) := by decide +kernel
theorem dL_law_659 : decode cL_law 659 = .ok (.aload_n 0, 1) := by decide +kernel
theorem dL_law_660 : decode cL_law 660 = .ok (.iload_n 3, 1) := by decide +kernel
theorem dL_law_661 : decode cL_law 661 = .ok (.iconst 1, 1) := by decide +kernel
theorem dL_law_662 : decode cL_law 662 = .ok (.iadd, 1) := by decide +kernel
theorem dL_law_663 : decode cL_law 663 = .ok (.iaload, 1) := by decide +kernel
theorem dL_law_664 : decode cL_law 664 = .ok (.aload_n 0, 1) := by decide +kernel
theorem dL_law_665 : decode cL_law 665 = .ok (.iload_n 3, 1) := by decide +kernel
theorem dL_law_666 : decode cL_law 666 = .ok (.iconst 2, 1) := by decide +kernel
theorem dL_law_667 : decode cL_law 667 = .ok (.iadd, 1) := by decide +kernel
theorem dL_law_668 : decode cL_law 668 = .ok (.iaload, 1) := by decide +kernel
theorem dL_law_669 : decode cL_law 669 = .ok (.invokevirtual 91, 3) := by decide +kernel
theorem dL_law_672 : decode cL_law 672 = .ok (.if_icmp .eq 354, 3) := by decide +kernel
theorem dL_law_675 : decode cL_law 675 = .ok (.iconst 0, 1) := by decide +kernel
theorem dL_law_676 : decode cL_law 676 = .ok (.ireturn, 1) := by decide +kernel
theorem dL_law_677 : decode cL_law 677 = .ok (.aload_n 1, 1) := by decide +kernel
theorem dL_law_678 : decode cL_law 678 = .ok (.aload_n 0, 1) := by decide +kernel
theorem dL_law_679 : decode cL_law 679 = .ok (.iload_n 3, 1) := by decide +kernel
theorem dL_law_680 : decode cL_law 680 = .ok (.iconst 1, 1) := by decide +kernel
theorem dL_law_681 : decode cL_law 681 = .ok (.iadd, 1) := by decide +kernel
theorem dL_law_682 : decode cL_law 682 = .ok (.iaload, 1) := by decide +kernel
theorem dL_law_683 : decode cL_law 683 = .ok (.invokevirtual 92, 3) := by decide +kernel
theorem dL_law_686 : decode cL_law 686 = .ok (.aload_n 2, 1) := by decide +kernel
theorem dL_law_687 : decode cL_law 687 = .ok (.aload_n 0, 1) := by decide +kernel
theorem dL_law_688 : decode cL_law 688 = .ok (.iload_n 3, 1) := by decide +kernel
theorem dL_law_689 : decode cL_law 689 = .ok (.iconst 1, 1) := by decide +kernel
theorem dL_law_690 : decode cL_law 690 = .ok (.iadd, 1) := by decide +kernel
theorem dL_law_691 : decode cL_law 691 = .ok (.iaload, 1) := by decide +kernel
theorem dL_law_692 : decode cL_law 692 = .ok (.invokevirtual 95, 3) := by decide +kernel
theorem dL_law_695 : decode cL_law 695 = .ok (.if_icmp .eq 331, 3) := by decide +kernel
theorem dL_law_698 : decode cL_law 698 = .ok (.iconst 0, 1) := by decide +kernel
theorem dL_law_699 : decode cL_law 699 = .ok (.ireturn, 1) := by decide +kernel
theorem dL_law_700 : decode cL_law 700 = .ok (.aload_n 1, 1) := by decide +kernel
theorem dL_law_701 : decode cL_law 701 = .ok (.invokevirtual 96, 3) := by decide +kernel
theorem dL_law_704 : decode cL_law 704 = .ok (.aload_n 2, 1) := by decide +kernel
theorem dL_law_705 : decode cL_law 705 = .ok (.invokevirtual 99, 3) := by decide +kernel
theorem dL_law_708 : decode cL_law 708 = .ok (.if_icmp .eq 318, 3) := by decide +kernel
theorem dL_law_711 : decode cL_law 711 = .ok (.iconst 0, 1) := by decide +kernel
theorem dL_law_712 : decode cL_law 712 = .ok (.ireturn, 1) := by decide +kernel
theorem dL_law_713 : decode cL_law 713 = .ok (.aload_n 1, 1) := by decide +kernel
theorem dL_law_714 : decode cL_law 714 = .ok (.aload_n 0, 1) := by decide +kernel
theorem dL_law_715 : decode cL_law 715 = .ok (.iload_n 3, 1) := by decide +kernel
theorem dL_law_716 : decode cL_law 716 = .ok (.iconst 1, 1) := by decide +kernel
theorem dL_law_717 : decode cL_law 717 = .ok (.iadd, 1) := by decide +kernel
theorem dL_law_718 : decode cL_law 718 = .ok (.iaload, 1) := by decide +kernel
theorem dL_law_719 : decode cL_law 719 = .ok (.invokevirtual 100, 3) := by decide +kernel
theorem dL_law_722 : decode cL_law 722 = .ok (.aload_n 2, 1) := by decide +kernel
theorem dL_law_723 : decode cL_law 723 = .ok (.aload_n 0, 1) := by decide +kernel
theorem dL_law_724 : decode cL_law 724 = .ok (.iload_n 3, 1) := by decide +kernel
theorem dL_law_725 : decode cL_law 725 = .ok (.iconst 1, 1) := by decide +kernel
theorem dL_law_726 : decode cL_law 726 = .ok (.iadd, 1) := by decide +kernel
theorem dL_law_727 : decode cL_law 727 = .ok (.iaload, 1) := by decide +kernel
theorem dL_law_728 : decode cL_law 728 = .ok (.invokevirtual 103, 3) := by decide +kernel
theorem dL_law_731 : decode cL_law 731 = .ok (.if_icmp .eq 295, 3) := by decide +kernel
theorem dL_law_734 : decode cL_law 734 = .ok (.iconst 0, 1) := by decide +kernel
theorem dL_law_735 : decode cL_law 735 = .ok (.ireturn, 1) := by decide +kernel
theorem dL_law_736 : decode cL_law 736 = .ok (.aload_n 1, 1) := by decide +kernel
theorem dL_law_737 : decode cL_law 737 = .ok (.aload_n 0, 1) := by decide +kernel
theorem dL_law_738 : decode cL_law 738 = .ok (.iload_n 3, 1) := by decide +kernel
theorem dL_law_739 : decode cL_law 739 = .ok (.iconst 1, 1) := by decide +kernel
theorem dL_law_740 : decode cL_law 740 = .ok (.iadd, 1) := by decide +kernel
theorem dL_law_741 : decode cL_law 741 = .ok (.iaload, 1) := by decide +kernel
theorem dL_law_742 : decode cL_law 742 = .ok (.invokevirtual 104, 3) := by decide +kernel
theorem dL_law_745 : decode cL_law 745 = .ok (.aload_n 2, 1) := by decide +kernel
theorem dL_law_746 : decode cL_law 746 = .ok (.aload_n 0, 1) := by decide +kernel
theorem dL_law_747 : decode cL_law 747 = .ok (.iload_n 3, 1) := by decide +kernel
theorem dL_law_748 : decode cL_law 748 = .ok (.iconst 1, 1) := by decide +kernel
theorem dL_law_749 : decode cL_law 749 = .ok (.iadd, 1) := by decide +kernel
theorem dL_law_750 : decode cL_law 750 = .ok (.iaload, 1) := by decide +kernel
theorem dL_law_751 : decode cL_law 751 = .ok (.invokevirtual 107, 3) := by decide +kernel
theorem dL_law_754 : decode cL_law 754 = .ok (.if_icmp .eq 272, 3) := by decide +kernel
theorem dL_law_757 : decode cL_law 757 = .ok (.iconst 0, 1) := by decide +kernel
theorem dL_law_758 : decode cL_law 758 = .ok (.ireturn, 1) := by decide +kernel
theorem dL_law_759 : decode cL_law 759 = .ok (.aload_n 1, 1) := by decide +kernel
theorem dL_law_760 : decode cL_law 760 = .ok (.invokevirtual 108, 3) := by decide +kernel
theorem dL_law_763 : decode cL_law 763 = .ok (.aload_n 2, 1) := by decide +kernel
theorem dL_law_764 : decode cL_law 764 = .ok (.invokevirtual 111, 3) := by decide +kernel
theorem dL_law_767 : decode cL_law 767 = .ok (.if_icmp .eq 259, 3) := by decide +kernel
theorem dL_law_770 : decode cL_law 770 = .ok (.iconst 0, 1) := by decide +kernel
theorem dL_law_771 : decode cL_law 771 = .ok (.ireturn, 1) := by decide +kernel
theorem dL_law_772 : decode cL_law 772 = .ok (.aload_n 1, 1) := by decide +kernel
theorem dL_law_773 : decode cL_law 773 = .ok (.aload_n 0, 1) := by decide +kernel
theorem dL_law_774 : decode cL_law 774 = .ok (.iload_n 3, 1) := by decide +kernel
theorem dL_law_775 : decode cL_law 775 = .ok (.iconst 1, 1) := by decide +kernel
theorem dL_law_776 : decode cL_law 776 = .ok (.iadd, 1) := by decide +kernel
theorem dL_law_777 : decode cL_law 777 = .ok (.iaload, 1) := by decide +kernel
theorem dL_law_778 : decode cL_law 778 = .ok (.aload_n 0, 1) := by decide +kernel
theorem dL_law_779 : decode cL_law 779 = .ok (.iload_n 3, 1) := by decide +kernel
theorem dL_law_780 : decode cL_law 780 = .ok (.iconst 2, 1) := by decide +kernel
theorem dL_law_781 : decode cL_law 781 = .ok (.iadd, 1) := by decide +kernel
theorem dL_law_782 : decode cL_law 782 = .ok (.iaload, 1) := by decide +kernel
theorem dL_law_783 : decode cL_law 783 = .ok (.ifCond .eq 7, 3) := by decide +kernel
theorem dL_law_786 : decode cL_law 786 = .ok (.iconst 1, 1) := by decide +kernel
theorem dL_law_787 : decode cL_law 787 = .ok (.goto 4, 3) := by decide +kernel
theorem dL_law_790 : decode cL_law 790 = .ok (.iconst 0, 1) := by decide +kernel
theorem dL_law_791 : decode cL_law 791 = .ok (.invokevirtual 112, 3) := by decide +kernel
theorem dL_law_794 : decode cL_law 794 = .ok (.aload_n 2, 1) := by decide +kernel
theorem dL_law_795 : decode cL_law 795 = .ok (.aload_n 0, 1) := by decide +kernel
theorem dL_law_796 : decode cL_law 796 = .ok (.iload_n 3, 1) := by decide +kernel
theorem dL_law_797 : decode cL_law 797 = .ok (.iconst 1, 1) := by decide +kernel
theorem dL_law_798 : decode cL_law 798 = .ok (.iadd, 1) := by decide +kernel
theorem dL_law_799 : decode cL_law 799 = .ok (.iaload, 1) := by decide +kernel
theorem dL_law_800 : decode cL_law 800 = .ok (.aload_n 0, 1) := by decide +kernel
theorem dL_law_801 : decode cL_law 801 = .ok (.iload_n 3, 1) := by decide +kernel
theorem dL_law_802 : decode cL_law 802 = .ok (.iconst 2, 1) := by decide +kernel
theorem dL_law_803 : decode cL_law 803 = .ok (.iadd, 1) := by decide +kernel
theorem dL_law_804 : decode cL_law 804 = .ok (.iaload, 1) := by decide +kernel
theorem dL_law_805 : decode cL_law 805 = .ok (.ifCond .eq 7, 3) := by decide +kernel
theorem dL_law_808 : decode cL_law 808 = .ok (.iconst 1, 1) := by decide +kernel
theorem dL_law_809 : decode cL_law 809 = .ok (.goto 4, 3) := by decide +kernel
theorem dL_law_812 : decode cL_law 812 = .ok (.iconst 0, 1) := by decide +kernel
theorem dL_law_813 : decode cL_law 813 = .ok (.invokevirtual 116, 3) := by decide +kernel
theorem dL_law_816 : decode cL_law 816 = .ok (.if_icmp .eq 210, 3) := by decide +kernel
theorem dL_law_819 : decode cL_law 819 = .ok (.iconst 0, 1) := by decide +kernel
theorem dL_law_820 : decode cL_law 820 = .ok (.ireturn, 1) := by decide +kernel
theorem dL_law_821 : decode cL_law 821 = .ok (.aload_n 1, 1) := by decide +kernel
theorem dL_law_822 : decode cL_law 822 = .ok (.aload_n 0, 1) := by decide +kernel
theorem dL_law_823 : decode cL_law 823 = .ok (.iload_n 3, 1) := by decide +kernel
theorem dL_law_824 : decode cL_law 824 = .ok (.iconst 1, 1) := by decide +kernel
theorem dL_law_825 : decode cL_law 825 = .ok (.iadd, 1) := by decide +kernel
theorem dL_law_826 : decode cL_law 826 = .ok (.iaload, 1) := by decide +kernel
theorem dL_law_827 : decode cL_law 827 = .ok (.aload_n 0, 1) := by decide +kernel
theorem dL_law_828 : decode cL_law 828 = .ok (.iload_n 3, 1) := by decide +kernel
theorem dL_law_829 : decode cL_law 829 = .ok (.iconst 2, 1) := by decide +kernel
theorem dL_law_830 : decode cL_law 830 = .ok (.iadd, 1) := by decide +kernel
theorem dL_law_831 : decode cL_law 831 = .ok (.iaload, 1) := by decide +kernel
theorem dL_law_832 : decode cL_law 832 = .ok (.invokevirtual 117, 3) := by decide +kernel
theorem dL_law_835 : decode cL_law 835 = .ok (.aload_n 2, 1) := by decide +kernel
theorem dL_law_836 : decode cL_law 836 = .ok (.aload_n 0, 1) := by decide +kernel
theorem dL_law_837 : decode cL_law 837 = .ok (.iload_n 3, 1) := by decide +kernel
theorem dL_law_838 : decode cL_law 838 = .ok (.iconst 1, 1) := by decide +kernel
theorem dL_law_839 : decode cL_law 839 = .ok (.iadd, 1) := by decide +kernel
theorem dL_law_840 : decode cL_law 840 = .ok (.iaload, 1) := by decide +kernel
theorem dL_law_841 : decode cL_law 841 = .ok (.aload_n 0, 1) := by decide +kernel
theorem dL_law_842 : decode cL_law 842 = .ok (.iload_n 3, 1) := by decide +kernel
theorem dL_law_843 : decode cL_law 843 = .ok (.iconst 2, 1) := by decide +kernel
theorem dL_law_844 : decode cL_law 844 = .ok (.iadd, 1) := by decide +kernel
theorem dL_law_845 : decode cL_law 845 = .ok (.iaload, 1) := by decide +kernel
theorem dL_law_846 : decode cL_law 846 = .ok (.invokevirtual 120, 3) := by decide +kernel
theorem dL_law_849 : decode cL_law 849 = .ok (.if_icmp .eq 177, 3) := by decide +kernel
theorem dL_law_852 : decode cL_law 852 = .ok (.iconst 0, 1) := by decide +kernel
theorem dL_law_853 : decode cL_law 853 = .ok (.ireturn, 1) := by decide +kernel
theorem dL_law_854 : decode cL_law 854 = .ok (.aload_n 1, 1) := by decide +kernel
theorem dL_law_855 : decode cL_law 855 = .ok (.aload_n 0, 1) := by decide +kernel
theorem dL_law_856 : decode cL_law 856 = .ok (.iload_n 3, 1) := by decide +kernel
theorem dL_law_857 : decode cL_law 857 = .ok (.iconst 1, 1) := by decide +kernel
theorem dL_law_858 : decode cL_law 858 = .ok (.iadd, 1) := by decide +kernel
theorem dL_law_859 : decode cL_law 859 = .ok (.iaload, 1) := by decide +kernel
theorem dL_law_860 : decode cL_law 860 = .ok (.aload_n 0, 1) := by decide +kernel
theorem dL_law_861 : decode cL_law 861 = .ok (.iload_n 3, 1) := by decide +kernel
theorem dL_law_862 : decode cL_law 862 = .ok (.iconst 2, 1) := by decide +kernel
theorem dL_law_863 : decode cL_law 863 = .ok (.iadd, 1) := by decide +kernel
theorem dL_law_864 : decode cL_law 864 = .ok (.iaload, 1) := by decide +kernel
theorem dL_law_865 : decode cL_law 865 = .ok (.invokevirtual 121, 3) := by decide +kernel
theorem dL_law_868 : decode cL_law 868 = .ok (.aload_n 2, 1) := by decide +kernel
theorem dL_law_869 : decode cL_law 869 = .ok (.aload_n 0, 1) := by decide +kernel
theorem dL_law_870 : decode cL_law 870 = .ok (.iload_n 3, 1) := by decide +kernel
theorem dL_law_871 : decode cL_law 871 = .ok (.iconst 1, 1) := by decide +kernel
theorem dL_law_872 : decode cL_law 872 = .ok (.iadd, 1) := by decide +kernel
theorem dL_law_873 : decode cL_law 873 = .ok (.iaload, 1) := by decide +kernel
theorem dL_law_874 : decode cL_law 874 = .ok (.aload_n 0, 1) := by decide +kernel
theorem dL_law_875 : decode cL_law 875 = .ok (.iload_n 3, 1) := by decide +kernel
theorem dL_law_876 : decode cL_law 876 = .ok (.iconst 2, 1) := by decide +kernel
theorem dL_law_877 : decode cL_law 877 = .ok (.iadd, 1) := by decide +kernel
theorem dL_law_878 : decode cL_law 878 = .ok (.iaload, 1) := by decide +kernel
theorem dL_law_879 : decode cL_law 879 = .ok (.invokevirtual 124, 3) := by decide +kernel
theorem dL_law_882 : decode cL_law 882 = .ok (.if_icmp .eq 144, 3) := by decide +kernel
theorem dL_law_885 : decode cL_law 885 = .ok (.iconst 0, 1) := by decide +kernel
theorem dL_law_886 : decode cL_law 886 = .ok (.ireturn, 1) := by decide +kernel
theorem dL_law_887 : decode cL_law 887 = .ok (.aload_n 1, 1) := by decide +kernel
theorem dL_law_888 : decode cL_law 888 = .ok (.aload_n 0, 1) := by decide +kernel
theorem dL_law_889 : decode cL_law 889 = .ok (.iload_n 3, 1) := by decide +kernel
theorem dL_law_890 : decode cL_law 890 = .ok (.iconst 1, 1) := by decide +kernel
theorem dL_law_891 : decode cL_law 891 = .ok (.iadd, 1) := by decide +kernel
theorem dL_law_892 : decode cL_law 892 = .ok (.iaload, 1) := by decide +kernel
theorem dL_law_893 : decode cL_law 893 = .ok (.invokevirtual 125, 3) := by decide +kernel
theorem dL_law_896 : decode cL_law 896 = .ok (.aload_n 2, 1) := by decide +kernel
theorem dL_law_897 : decode cL_law 897 = .ok (.aload_n 0, 1) := by decide +kernel
theorem dL_law_898 : decode cL_law 898 = .ok (.iload_n 3, 1) := by decide +kernel
theorem dL_law_899 : decode cL_law 899 = .ok (.iconst 1, 1) := by decide +kernel
theorem dL_law_900 : decode cL_law 900 = .ok (.iadd, 1) := by decide +kernel
theorem dL_law_901 : decode cL_law 901 = .ok (.iaload, 1) := by decide +kernel
theorem dL_law_902 : decode cL_law 902 = .ok (.invokevirtual 128, 3) := by decide +kernel
theorem dL_law_905 : decode cL_law 905 = .ok (.if_icmp .eq 121, 3) := by decide +kernel
theorem dL_law_908 : decode cL_law 908 = .ok (.iconst 0, 1) := by decide +kernel
theorem dL_law_909 : decode cL_law 909 = .ok (.ireturn, 1) := by decide +kernel
theorem dL_law_910 : decode cL_law 910 = .ok (.aload_n 1, 1) := by decide +kernel
theorem dL_law_911 : decode cL_law 911 = .ok (.aload_n 0, 1) := by decide +kernel
theorem dL_law_912 : decode cL_law 912 = .ok (.iload_n 3, 1) := by decide +kernel
theorem dL_law_913 : decode cL_law 913 = .ok (.iconst 1, 1) := by decide +kernel
theorem dL_law_914 : decode cL_law 914 = .ok (.iadd, 1) := by decide +kernel
theorem dL_law_915 : decode cL_law 915 = .ok (.iaload, 1) := by decide +kernel
theorem dL_law_916 : decode cL_law 916 = .ok (.aload_n 0, 1) := by decide +kernel
theorem dL_law_917 : decode cL_law 917 = .ok (.iload_n 3, 1) := by decide +kernel
theorem dL_law_918 : decode cL_law 918 = .ok (.iconst 2, 1) := by decide +kernel
theorem dL_law_919 : decode cL_law 919 = .ok (.iadd, 1) := by decide +kernel
theorem dL_law_920 : decode cL_law 920 = .ok (.iaload, 1) := by decide +kernel
theorem dL_law_921 : decode cL_law 921 = .ok (.invokevirtual 129, 3) := by decide +kernel
theorem dL_law_924 : decode cL_law 924 = .ok (.aload_n 2, 1) := by decide +kernel
theorem dL_law_925 : decode cL_law 925 = .ok (.aload_n 0, 1) := by decide +kernel
theorem dL_law_926 : decode cL_law 926 = .ok (.iload_n 3, 1) := by decide +kernel
theorem dL_law_927 : decode cL_law 927 = .ok (.iconst 1, 1) := by decide +kernel
theorem dL_law_928 : decode cL_law 928 = .ok (.iadd, 1) := by decide +kernel
theorem dL_law_929 : decode cL_law 929 = .ok (.iaload, 1) := by decide +kernel
theorem dL_law_930 : decode cL_law 930 = .ok (.aload_n 0, 1) := by decide +kernel
theorem dL_law_931 : decode cL_law 931 = .ok (.iload_n 3, 1) := by decide +kernel
theorem dL_law_932 : decode cL_law 932 = .ok (.iconst 2, 1) := by decide +kernel
theorem dL_law_933 : decode cL_law 933 = .ok (.iadd, 1) := by decide +kernel
theorem dL_law_934 : decode cL_law 934 = .ok (.iaload, 1) := by decide +kernel
theorem dL_law_935 : decode cL_law 935 = .ok (.invokevirtual 132, 3) := by decide +kernel
theorem dL_law_938 : decode cL_law 938 = .ok (.if_icmp .eq 88, 3) := by decide +kernel
theorem dL_law_941 : decode cL_law 941 = .ok (.iconst 0, 1) := by decide +kernel
theorem dL_law_942 : decode cL_law 942 = .ok (.ireturn, 1) := by decide +kernel
theorem dL_law_943 : decode cL_law 943 = .ok (.aload_n 1, 1) := by decide +kernel
theorem dL_law_944 : decode cL_law 944 = .ok (.aload_n 0, 1) := by decide +kernel
theorem dL_law_945 : decode cL_law 945 = .ok (.iload_n 3, 1) := by decide +kernel
theorem dL_law_946 : decode cL_law 946 = .ok (.iconst 1, 1) := by decide +kernel
theorem dL_law_947 : decode cL_law 947 = .ok (.iadd, 1) := by decide +kernel
theorem dL_law_948 : decode cL_law 948 = .ok (.iaload, 1) := by decide +kernel
theorem dL_law_949 : decode cL_law 949 = .ok (.aload_n 0, 1) := by decide +kernel
theorem dL_law_950 : decode cL_law 950 = .ok (.iload_n 3, 1) := by decide +kernel
theorem dL_law_951 : decode cL_law 951 = .ok (.iconst 2, 1) := by decide +kernel
theorem dL_law_952 : decode cL_law 952 = .ok (.iadd, 1) := by decide +kernel
theorem dL_law_953 : decode cL_law 953 = .ok (.iaload, 1) := by decide +kernel
theorem dL_law_954 : decode cL_law 954 = .ok (.invokevirtual 133, 3) := by decide +kernel
theorem dL_law_957 : decode cL_law 957 = .ok (.aload_n 2, 1) := by decide +kernel
theorem dL_law_958 : decode cL_law 958 = .ok (.aload_n 0, 1) := by decide +kernel
theorem dL_law_959 : decode cL_law 959 = .ok (.iload_n 3, 1) := by decide +kernel
theorem dL_law_960 : decode cL_law 960 = .ok (.iconst 1, 1) := by decide +kernel
theorem dL_law_961 : decode cL_law 961 = .ok (.iadd, 1) := by decide +kernel
theorem dL_law_962 : decode cL_law 962 = .ok (.iaload, 1) := by decide +kernel
theorem dL_law_963 : decode cL_law 963 = .ok (.aload_n 0, 1) := by decide +kernel
theorem dL_law_964 : decode cL_law 964 = .ok (.iload_n 3, 1) := by decide +kernel
theorem dL_law_965 : decode cL_law 965 = .ok (.iconst 2, 1) := by decide +kernel
theorem dL_law_966 : decode cL_law 966 = .ok (.iadd, 1) := by decide +kernel
theorem dL_law_967 : decode cL_law 967 = .ok (.iaload, 1) := by decide +kernel
theorem dL_law_968 : decode cL_law 968 = .ok (.invokevirtual 136, 3) := by decide +kernel
theorem dL_law_971 : decode cL_law 971 = .ok (.if_icmp .eq 55, 3) := by decide +kernel
theorem dL_law_974 : decode cL_law 974 = .ok (.iconst 0, 1) := by decide +kernel
theorem dL_law_975 : decode cL_law 975 = .ok (.ireturn, 1) := by decide +kernel
theorem dL_law_976 : decode cL_law 976 = .ok (.aload_n 1, 1) := by decide +kernel
theorem dL_law_977 : decode cL_law 977 = .ok (.invokevirtual 137, 3) := by decide +kernel
theorem dL_law_980 : decode cL_law 980 = .ok (.aload_n 2, 1) := by decide +kernel
theorem dL_law_981 : decode cL_law 981 = .ok (.invokevirtual 140, 3) := by decide +kernel
theorem dL_law_984 : decode cL_law 984 = .ok (.if_icmp .eq 42, 3) := by decide +kernel
theorem dL_law_987 : decode cL_law 987 = .ok (.iconst 0, 1) := by decide +kernel
theorem dL_law_988 : decode cL_law 988 = .ok (.ireturn, 1) := by decide +kernel
theorem dL_law_989 : decode cL_law 989 = .ok (.aload_n 1, 1) := by decide +kernel
theorem dL_law_990 : decode cL_law 990 = .ok (.aload_n 0, 1) := by decide +kernel
theorem dL_law_991 : decode cL_law 991 = .ok (.iload_n 3, 1) := by decide +kernel
theorem dL_law_992 : decode cL_law 992 = .ok (.iconst 1, 1) := by decide +kernel
theorem dL_law_993 : decode cL_law 993 = .ok (.iadd, 1) := by decide +kernel
theorem dL_law_994 : decode cL_law 994 = .ok (.iaload, 1) := by decide +kernel
theorem dL_law_995 : decode cL_law 995 = .ok (.invokevirtual 141, 3) := by decide +kernel
theorem dL_law_998 : decode cL_law 998 = .ok (.aload_n 2, 1) := by decide +kernel
theorem dL_law_999 : decode cL_law 999 = .ok (.aload_n 0, 1) := by decide +kernel
theorem dL_law_1000 : decode cL_law 1000 = .ok (.iload_n 3, 1) := by decide +kernel
theorem dL_law_1001 : decode cL_law 1001 = .ok (.iconst 1, 1) := by decide +kernel
theorem dL_law_1002 : decode cL_law 1002 = .ok (.iadd, 1) := by decide +kernel
theorem dL_law_1003 : decode cL_law 1003 = .ok (.iaload, 1) := by decide +kernel
theorem dL_law_1004 : decode cL_law 1004 = .ok (.invokevirtual 144, 3) := by decide +kernel
theorem dL_law_1007 : decode cL_law 1007 = .ok (.if_icmp .eq 19, 3) := by decide +kernel
theorem dL_law_1010 : decode cL_law 1010 = .ok (.iconst 0, 1) := by decide +kernel
theorem dL_law_1011 : decode cL_law 1011 = .ok (.ireturn, 1) := by decide +kernel
theorem dL_law_1012 : decode cL_law 1012 = .ok (.aload_n 1, 1) := by decide +kernel
theorem dL_law_1013 : decode cL_law 1013 = .ok (.invokevirtual 145, 3) := by decide +kernel
theorem dL_law_1016 : decode cL_law 1016 = .ok (.aload_n 2, 1) := by decide +kernel
theorem dL_law_1017 : decode cL_law 1017 = .ok (.invokevirtual 149, 3) := by decide +kernel
theorem dL_law_1020 : decode cL_law 1020 = .ok (.lcmp, 1) := by decide +kernel
theorem dL_law_1021 : decode cL_law 1021 = .ok (.ifCond .eq 5, 3) := by decide +kernel
theorem dL_law_1024 : decode cL_law 1024 = .ok (.iconst 0, 1) := by decide +kernel
theorem dL_law_1025 : decode cL_law 1025 = .ok (.ireturn, 1) := by decide +kernel
theorem dL_law_1026 : decode cL_law 1026 = .ok (.iinc 3 3, 3) := by decide +kernel
theorem dL_law_1029 : decode cL_law 1029 = .ok (.goto (-1011), 3) := by decide +kernel
theorem dL_law_1032 : decode cL_law 1032 = .ok (.iconst 1, 1) := by decide +kernel
theorem dL_law_1033 : decode cL_law 1033 = .ok (.ireturn, 1) := by decide +kernel
end
section
def xv (B : Nat) : Value → Value
  | .ref k => .ref (B + k)
  | .retAddr b => .ref b
  | v => v
def xva (B : Nat) (a : vp_A) : vp_A := match a with
  | (n, .inr (.inr (.inr (.inr f)))) => (n, .inr (.inr (.inr (.inr (fun j => (f j).map (B + ·))))))
  | x => x
abbrev XE : Type := (Nat × List Value) ⊕ (Nat × vp_A)
abbrev XH : Type := Nat → Option XE
def xcv (aT : Nat → ClassId) (B : Nat) : XE → va_E
  | .inl (ci, fs) => .inr (ci, fs.map (xv B))
  | .inr (t, a) => .inl (aT t, xva B a)
def XHp (D : va_G) (aT : Nat → ClassId) (B : Nat) (h : XH) (H : Heap) : Prop := ∀ (a : Nat) (e : XE), h a = some e → va_at D vwCl (B + a, xcv aT B e) H
def xup (h : XH) (a : Nat) (e : XE) : XH := fun b => if b = a then some e else h b
theorem xv_cat (B : Nat) (v : Value) : (xv B v).category = v.category := by cases v <;> rfl
theorem XHp.put {D : va_G} {aT : Nat → ClassId} {B : Nat} {h : XH} {H H1 : Heap} {a : Nat} {e : XE} (hP : XHp D aT B h H) (he : va_at D vwCl (B + a, xcv aT B e) H1) (oq : ∀ q : Nat, q ≠ B + a → H1[q]? = H[q]?) : XHp D aT B (xup h a e) H1 := by
  intro b x hb
  by_cases hq : b = a
  · subst hq
    simp [xup] at hb
    subst hb
    exact he
  · simp [xup, hq] at hb
    exact (hP b x hb).kept (oq _ (by show B + b ≠ B + a; omega))
theorem XHp.push {D : va_G} {aT : Nat → ClassId} {B : Nat} {h : XH} {H H1 : Heap} {n : Nat} {e : XE} (hP : XHp D aT B h H) (hz : H.size = B + n) (he : va_at D vwCl (B + n, xcv aT B e) H1) (oq : ∀ q : Nat, q < H.size → H1[q]? = H[q]?) : XHp D aT B (xup h n e) H1 := by
  intro b x hb
  by_cases hq : b = n
  · subst hq
    simp [xup] at hb
    subst hb
    exact he
  · simp [xup, hq] at hb
    exact (hP b x hb).kept (oq _ ((hP b x hb).lt))
theorem XHp.one {D : va_G} {aT : Nat → ClassId} {B : Nat} {h : XH} {H : Heap} {a : Nat} {e : XE} (hP : XHp D aT B h H) (he : h a = some e) : va_P D vwCl [(B + a, xcv aT B e)] H := by
  intro k q hk
  rcases k with _ | k
  · cases hk
    exact hP a e he
  · simp at hk
theorem va_S.grow {A : Nat → Prop} {H0 H H1 : Heap} {locs : List Loc} (h : va_S A H0 H locs) (z : H.size ≤ H1.size) (o1 : ∀ q : Nat, q < H.size → H1[q]? = H[q]?) : va_S A H0 H1 locs :=
  ⟨Nat.le_trans h.1 z, fun q h1 h2 => (o1 q (Nat.lt_of_lt_of_le h1 h.1)).trans (h.2.1 q h1 h2), h.2.2⟩
/-! locals -/
def xls (B : Nat) : Nat → List (Option Value) → List (Nat × Value)
  | _, [] => []
  | k, none :: t => xls B (k + 1) t
  | k, some v :: t => (k, xv B v) :: xls B (k + 1) t
def XL (B nL : Nat) (ls : Array Slot) (L : List (Option Value)) : Prop := lv_has ls nL (xls B 0 L)
theorem xls_mem (B : Nat) (L : List (Option Value)) : ∀ (k j : Nat) (w : Value), (j, w) ∈ xls B k L ↔ ∃ (i : Nat) (v : Value), L[i]? = some (some v) ∧ j = k + i ∧ w = xv B v := by
  induction L with
  | nil => intro k j w; simp [xls]
  | cons a t ih =>
    intro k j w
    have key : (∃ (i : Nat) (v : Value), (a :: t)[i]? = some (some v) ∧ j = k + i ∧ w = xv B v) ↔ (∃ v, a = some v ∧ j = k ∧ w = xv B v) ∨ ∃ (i : Nat) (v : Value), t[i]? = some (some v) ∧ j = k + 1 + i ∧ w = xv B v := by
      constructor
      · rintro ⟨i, v, h1, h2, h3⟩
        rcases i with _ | i
        · left
          simp at h1
          exact ⟨v, h1, by omega, h3⟩
        · right
          rw [List.getElem?_cons_succ] at h1
          exact ⟨i, v, h1, by omega, h3⟩
      · rintro (⟨v, h1, h2, h3⟩ | ⟨i, v, h1, h2, h3⟩)
        · exact ⟨0, v, by simp [h1], by omega, h3⟩
        · exact ⟨i + 1, v, by rw [List.getElem?_cons_succ]; exact h1, by omega, h3⟩
    rw [key]
    cases a with
    | none => simp only [xls, ih]; simp
    | some v =>
      simp only [xls, List.mem_cons, ih, Prod.mk.injEq]
      constructor
      · rintro (⟨h1, h2⟩ | h)
        · exact Or.inl ⟨v, rfl, h1, h2⟩
        · exact Or.inr h
      · rintro (⟨v', h0, h1, h2⟩ | h)
        · cases h0; exact Or.inl ⟨h1, h2⟩
        · exact Or.inr h
theorem XL.at {B nL : Nat} {ls : Array Slot} {L : List (Option Value)} {i : Nat} {v : Value} (h : XL B nL ls L) (hi : L[i]? = some (some v)) : ls[i]? = some (.val (xv B v)) :=
  h.2.2 (i, xv B v) ((xls_mem B L 0 i (xv B v)).mpr ⟨i, v, hi, by omega, rfl⟩)
theorem XL.sub {B nL : Nat} {ls : Array Slot} {L L' : List (Option Value)} (h : XL B nL ls L) (hs : ∀ (i : Nat) (v : Value), L'[i]? = some (some v) → L[i]? = some (some v)) : XL B nL ls L' := by
  refine ⟨h.1, h.2.1, fun q hq => ?_⟩
  obtain ⟨j, w⟩ := q
  obtain ⟨i, v, h1, h2, h3⟩ := (xls_mem B L' 0 j w).mp hq
  subst h3
  rw [Nat.zero_add] at h2
  subst h2
  exact h.at (hs _ v h1)
def xsub : List (Option Value) → List (Option Value) → Prop
  | [], _ => True
  | a :: t, [] => a = none ∧ xsub t []
  | a :: t, b :: u => (a = none ∨ a = b) ∧ xsub t u
theorem xsub_at : ∀ (L' L : List (Option Value)), xsub L' L → ∀ (i : Nat) (v : Value), L'[i]? = some (some v) → L[i]? = some (some v)
  | [], _, _, i, v, h => by simp at h
  | a :: t, [], hs, i, v, h => by
    rcases i with _ | i
    · simp [hs.1] at h
    · rw [List.getElem?_cons_succ] at h
      have := xsub_at t [] hs.2 i v h
      simp at this
  | a :: t, b :: u, hs, i, v, h => by
    rcases i with _ | i
    · simp at h
      rcases hs.1 with q | q
      · rw [h] at q; cases q
      · simp [← q, h]
    · rw [List.getElem?_cons_succ] at h ⊢
      exact xsub_at t u hs.2 i v h
def xst (L : List (Option Value)) (i : Nat) (v : Value) : List (Option Value) :=
  match i with
  | 0 => L.set 0 (some v)
  | j + 1 => match L[j]? with
    | some (some w) => if w.category = 2 then (L.set j none).set (j + 1) (some v) else L.set (j + 1) (some v)
    | _ => L.set (j + 1) (some v)
theorem xset_at {L : List (Option Value)} {i q : Nat} {v u : Value} (h : (L.set i (some v))[q]? = some (some u)) : (q = i ∧ u = v) ∨ (q ≠ i ∧ L[q]? = some (some u)) := by
  by_cases hq : q = i
  · subst hq
    left
    rw [List.getElem?_set] at h
    simp at h
    exact ⟨rfl, h.2.symm⟩
  · right
    rw [List.getElem?_set_ne (Ne.symm hq)] at h
    exact ⟨hq, h⟩
theorem xset_none {L : List (Option Value)} {i q : Nat} {u : Value} (h : (L.set i none)[q]? = some (some u)) : q ≠ i ∧ L[q]? = some (some u) := by
  by_cases hq : q = i
  · subst hq
    rw [List.getElem?_set] at h
    simp at h
  · rw [List.getElem?_set_ne (Ne.symm hq)] at h
    exact ⟨hq, h⟩
theorem xst_at {L : List (Option Value)} {i q : Nat} {v u : Value} (h : (xst L i v)[q]? = some (some u)) : (q = i ∧ u = v) ∨ (q ≠ i ∧ L[q]? = some (some u) ∧ ¬ (q + 1 = i ∧ u.category = 2)) := by
  rcases i with _ | j
  · rcases xset_at h with ⟨a, b⟩ | ⟨a, b⟩
    · exact Or.inl ⟨a, b⟩
    · exact Or.inr ⟨a, b, fun q => by omega⟩
  · unfold xst at h
    cases hj : L[j]? with
    | none =>
      simp only [hj] at h
      rcases xset_at h with ⟨a, b⟩ | ⟨a, b⟩
      · exact Or.inl ⟨a, b⟩
      · exact Or.inr ⟨a, b, fun q' => by
          have : q = j := by omega
          subst this
          rw [hj] at b; cases b⟩
    | some o =>
      cases o with
      | none =>
        simp only [hj] at h
        rcases xset_at h with ⟨a, b⟩ | ⟨a, b⟩
        · exact Or.inl ⟨a, b⟩
        · exact Or.inr ⟨a, b, fun q' => by
            have : q = j := by omega
            subst this
            rw [hj] at b; cases b⟩
      | some w =>
        simp only [hj] at h
        by_cases hc : w.category = 2
        · rw [if_pos hc] at h
          rcases xset_at h with ⟨a, b⟩ | ⟨a, b⟩
          · exact Or.inl ⟨a, b⟩
          · obtain ⟨b1, b2⟩ := xset_none b
            exact Or.inr ⟨a, b2, fun q' => by omega⟩
        · rw [if_neg hc] at h
          rcases xset_at h with ⟨a, b⟩ | ⟨a, b⟩
          · exact Or.inl ⟨a, b⟩
          · exact Or.inr ⟨a, b, fun q' => by
              have : q = j := by omega
              subst this
              rw [hj] at b
              cases b
              exact hc q'.2⟩
def xst2 (L : List (Option Value)) (i : Nat) (v : Value) : List (Option Value) := (xst L i v).set (i + 1) none
theorem XL.st1 {B nL : Nat} {ls : Array Slot} {L : List (Option Value)} {i : Nat} {v : Value} (h : lv_has ls nL ((i, xv B v) :: (xls B 0 L).filter (fun q => !(q.1 == i) && !(q.1 + 1 == i && q.2.category == 2)))) : XL B nL ls (xst L i v) := by
  refine ⟨h.1, h.2.1, fun q hq => ?_⟩
  obtain ⟨j, w⟩ := q
  obtain ⟨i', v', h1, h2, h3⟩ := (xls_mem B _ 0 j w).mp hq
  refine h.2.2 (j, w) ?_
  rw [Nat.zero_add] at h2
  subst h2 h3
  rcases xst_at h1 with ⟨a, b⟩ | ⟨a, b, d⟩
  · subst a; subst b; exact List.mem_cons_self
  · refine List.mem_cons_of_mem _ (List.mem_filter.mpr ⟨(xls_mem B L 0 _ _).mpr ⟨j, v', b, by omega, rfl⟩, ?_⟩)
    simp only [xv_cat]
    by_cases hj : j + 1 = i
    · have : ¬ v'.category = 2 := fun z => d ⟨hj, z⟩
      simp [a, this]
    · simp [a, hj]
theorem XL.st2 {B nL : Nat} {ls : Array Slot} {L : List (Option Value)} {i : Nat} {v : Value} (h : lv_has ls nL ((i, xv B v) :: (xls B 0 L).filter (fun q => !(q.1 == i) && (!(q.1 == i + 1) && !(q.1 + 1 == i && q.2.category == 2))))) : XL B nL ls (xst2 L i v) := by
  refine ⟨h.1, h.2.1, fun q hq => ?_⟩
  obtain ⟨j, w⟩ := q
  obtain ⟨i', v', h1, h2, h3⟩ := (xls_mem B _ 0 j w).mp hq
  refine h.2.2 (j, w) ?_
  rw [Nat.zero_add] at h2
  subst h2 h3
  obtain ⟨g, h1⟩ := xset_none h1
  rcases xst_at h1 with ⟨a, b⟩ | ⟨a, b, d⟩
  · subst a; subst b; exact List.mem_cons_self
  · refine List.mem_cons_of_mem _ (List.mem_filter.mpr ⟨(xls_mem B L 0 _ _).mpr ⟨j, v', b, by omega, rfl⟩, ?_⟩)
    simp only [xv_cat]
    by_cases hj : j + 1 = i
    · have : ¬ v'.category = 2 := fun z => d ⟨hj, z⟩
      simp [a, this, g]
    · simp [a, hj, g]
def xent : List Value → List (Option Value)
  | [] => []
  | v :: t => if v.category = 2 then some v :: none :: xent t else some v :: xent t
theorem xls_ent (B : Nat) (av : List Value) : ∀ k, xls B k (xent av) = lv_args k (av.map (xv B)) := by
  induction av with
  | nil => intro k; rfl
  | cons v t ih =>
    intro k
    by_cases h : v.category = 2
    · simp only [xent, if_pos h, xls, List.map_cons, lv_args, xv_cat, ih]
    · simp only [xent, if_neg h, xls, List.map_cons, lv_args, xv_cat, ih]
theorem xls_pad (B : Nat) (L : List (Option Value)) (j : Nat) : ∀ q ∈ xls B 0 (L ++ List.replicate j none), q ∈ xls B 0 L := by
  rintro ⟨a, w⟩ hq
  obtain ⟨i, v, h1, h2, h3⟩ := (xls_mem B _ 0 a w).mp hq
  refine (xls_mem B L 0 a w).mpr ⟨i, v, ?_, h2, h3⟩
  by_cases hi : i < L.length
  · rw [List.getElem?_append_left hi] at h1; exact h1
  · rw [List.getElem?_append_right (by omega), List.getElem?_replicate] at h1
    split at h1 <;> simp at h1
/-! the words of the tables, the nest's words -/
def tblG : List Cond := lw_tbl.filter goodWord
def isNest : Cond → Bool
  | .methodLinkNest .. => true
  | _ => false
def nestG : List Cond := lw_tbl.filter isNest
theorem tblG_sub : ∀ w ∈ tblG, w ∈ lw_tbl := fun w h => (List.mem_filter.mp h).1
theorem tblG_good : ∀ w ∈ tblG, goodWord w = true := fun w h => (List.mem_filter.mp h).2
theorem inG (i : Nat) {w : Cond} (h : lw_tbl[i]? = some w) (hg : goodWord w = true) : w ∈ tblG := List.mem_filter.mpr ⟨List.mem_of_getElem? h, hg⟩
theorem inN (i : Nat) {w : Cond} (h : lw_tbl[i]? = some w) (hg : isNest w = true) : w ∈ nestG := List.mem_filter.mpr ⟨List.mem_of_getElem? h, hg⟩
def tysX (aT : Nat → ClassId) : List (ClassId × FieldType) := [(aT 0, .int), (aT 1, .boolean), (aT 2, .object RX5)]
def XK (D : va_G) (aT : Nat → ClassId) (U : State) : Prop := va_K D vwCl (tysX aT) U ∧ (∀ w ∈ nestG, va_Nw w U) ∧ va_AO RX5 U
theorem nest_warm {w : Cond} (hw : isNest w = true) {s U : State} (hW : s.WarmedH U.vm) (h : va_Nw w s) : va_Nw w U := by
  cases w <;> first | (simp [isNest] at hw; done) | exact va_Nw.warmM hW h
theorem nest_tab {w : Cond} (hw : isNest w = true) : w.onTables = true := by
  cases w <;> first | (simp [isNest] at hw; done) | rfl
theorem XK.warm {D : va_G} {aT : Nat → ClassId} {s U : State} (hW : s.WarmedH U.vm) (h : XK D aT s) : XK D aT U :=
  ⟨va_K.moved hW.alike h.1, fun w hw => nest_warm (List.mem_filter.mp hw).2 hW (h.2.1 w hw), h.2.2.moved hW.alike⟩
theorem XK.same {D : va_G} {aT : Nat → ClassId} {s U : State} (hv : s.vm = U.vm) (h : XK D aT s) : XK D aT U :=
  ⟨va_K.moved (by rw [hv]; exact Vm.Alike.refl _) h.1, fun w hw => va_Nw.same (nest_tab (List.mem_filter.mp hw).2) hv (h.2.1 w hw), h.2.2.moved (by rw [hv]; exact Vm.Alike.refl _)⟩
/-! a method's start and end, the frame's context -/
def XP (D : va_G) (aT : Nat → ClassId) (B : Nat) (av : List Value) (h : XH) (n : Nat) : Array Value → State → Prop := fun v U => v = (av.map (xv B)).toArray ∧ XHp D aT B h U.heap ∧ U.heap.size = B + n ∧ XK D aT U
def XQ (D : va_G) (aT : Nat → ClassId) (B : Nat) (r : Option Value) (h' : XH) (n' : Nat) : Array Value → State → Outcome → State → Prop := fun _ st o t => o = .returned (r.map (xv B)) ∧ XHp D aT B h' t.heap ∧ t.heap.size = B + n' ∧ va_F (fun q => B ≤ q) st t
abbrev XCtx : Type := (Program × Launch × Env × Room) × (State × MethodId × Array Value × List Frame) × (Method × Code) × (va_G × (Nat → ClassId) × Nat) × (Nat × Nat) × (Nat × Nat) × (State → Prop)
def XW (X : XCtx) (pc : Nat) (L : List (Option Value)) (st : List Value) (h : XH) (n sl : Nat) : Prop := match X with
  | ((p, l, e, R), (s, m, args, below), (meth, c), (D, aT, B), (n0, sl0), (_, _), Qx) =>
    ∀ (H : Heap) (locs : List Loc) (ls : Array Slot) (k z : Nat), XL B c.maxLocals ls L → XHp D aT B h H → H.size = B + n → va_S (fun q => B ≤ q) s.heap H locs → n = n0 + k → sl = sl0 + z →
      W p l e R s m args below meth c H locs k z Qx (F0 m pc ls (st.map (xv B)))
def XOK (X : XCtx) (own : String) (cc : ByteArray) (nL : Nat) (nm : String) (ret : Option FieldType) (fr lo : Nat) : Prop := match X with
  | ((p, _, _, R), (s, m, args, _), (meth, c), (D, aT, B), (n0, sl0), (n', sl'), _) =>
    p.tables.exec = Jvm.exec ∧ c.code = cc ∧ c.maxLocals = nL ∧ meth.sig.returnType = ret ∧ meth.locks = false ∧ s.vm.findClass own = some m.cls ∧ meth.name = nm ∧ (∀ w ∈ tblG, w.before args s = true) ∧ XK D aT s ∧ R.frames = fr ∧ R.locals = lo ∧ R.cells = n' - n0 ∧ R.slots = sl' - sl0 ∧ B ≤ s.heap.size
/-- what the context says of the end -/
def XR (X : XCtx) (r : Option Value) (h' : XH) (n' sl' : Nat) : Prop := match X with
  | ((_, _, _, _), (s, _, args, below), (_, _), (D, aT, B), (n0, sl0), (_, _), Qx) => Qx = MQ below (XQ D aT B r h' n') args s (n' - n0) (sl' - sl0) (fun q => B ≤ q)
def XN (X : XCtx) (n sl : Nat) : Prop := n ≤ X.2.2.2.2.2.1.1 ∧ sl ≤ X.2.2.2.2.2.1.2
def XT (X : XCtx) (l : Launch) (r : Option Value) (h' : XH) (n' sl' : Nat) : Prop := X.1.2.1 = l ∧ XN X n' sl' ∧ XR X r h' n' sl'
def XM (l : Launch) (y : MethodName) (bytes : ByteArray) (maxL : Nat) (ret : Option FieldType) (fr lo : Nat) (av : List Value) (h : XH) (n sl : Nat) (r : Option Value) (h' : XH) (n' sl' : Nat) : Prop :=
  ∀ (D : va_G) (aT : Nat → ClassId) (B : Nat), Met l y (Cond.code y bytes maxL ret :: tblG) { frames := fr, cells := n' - n, slots := sl' - sl, locals := lo } (XP D aT B av h n) (XQ D aT B r h' n') (n' - n) (sl' - sl) (fun q => B ≤ q)
theorem xm_of {l : Launch} {y : MethodName} {bytes : ByteArray} {maxL : Nat} {ret : Option FieldType} {fr lo : Nat} {av : List Value} {h : XH} {n sl : Nat} {r : Option Value} {h' : XH} {n' sl' : Nat} (hy : plainName y.cls = true) (L : List (Option Value)) (j : Nat) (hLe : xent av ++ List.replicate j none = L) (hlen : (xent av).length ≤ maxL)
    (body : ∀ X : XCtx, XT X l r h' n' sl' → XOK X y.cls bytes maxL y.name ret fr lo → XW X 0 L [] h n sl) : XM l y bytes maxL ret fr lo av h n sl r h' n' sl' := by
  intro D aT B
  refine Met.ofW (cc := bytes) (maxL := maxL) (ret := ret) hy rfl ?_
  intro p e s m args below meth c s₁ BL hml hv
  obtain ⟨rfl, hH, hz, hK⟩ := hv
  have hts0 := atoms_spec (ws := Cond.code y bytes maxL ret :: tblG) BL.pre
  have hts : ∀ w ∈ tblG, w.before (av.map (xv B)).toArray s = true := fun w hw => hts0 w (List.mem_cons_of_mem _ hw)
  have hown : s.vm.findClass y.cls = some m.cls := findClass_of_methodNamed BL.named
  have hnm : meth.name = y.name := (name_of_methodNamed BL.named BL.method).1
  have hsl : (lg_sl (av.map (xv B))).length = (xent av).length := by
    have : ∀ vs : List Value, (lg_sl (vs.map (xv B))).length = (xent vs).length := by
      intro vs
      induction vs with
      | nil => rfl
      | cons v t ih =>
        simp only [lg_sl] at ih
        by_cases q : v.category = 2 <;> simp [lg_sl, xent, q, xv_cat, ih]
    exact this av
  have hl := lv_entry (av.map (xv B)) (n := maxL) (by rw [hsl]; exact hlen)
  rw [lg_entry_eq]
  generalize (lg_sl (av.map (xv B)) ++ List.replicate (maxL - (lg_sl (av.map (xv B))).length) Slot.unset).toArray = ls at hl ⊢
  have hXL : XL B c.maxLocals ls L := by
    rw [hml]
    refine ⟨hl.1, hl.2.1, fun q hq => hl.2.2 q ?_⟩
    rw [← hLe] at hq
    rw [← xls_ent]
    exact xls_pad B _ j q hq
  have hB : B ≤ s.heap.size := by rw [hz]; exact Nat.le_add_right _ _
  have w := body ((p, l, e, (headSpec (Cond.code y bytes maxL ret :: tblG) { frames := fr, cells := n' - n, slots := sl' - sl, locals := lo }).room), (s, m, (av.map (xv B)).toArray, below), (meth, c), (D, aT, B), (n, sl), (n', sl'), MQ below (XQ D aT B r h' n') (av.map (xv B)).toArray s (n' - n) (sl' - sl) (fun q => B ≤ q)) ⟨rfl, ⟨Nat.le_refl _, Nat.le_refl _⟩, rfl⟩ ⟨BL.exec, BL.bytes, hml, BL.returns, BL.notSynchronized, hown, hnm, hts, hK, rfl, rfl, rfl, rfl, hB⟩
  exact w s.heap [] ls 0 0 hXL hH hz va_S.rf rfl rfl

theorem xw_iconst {X : XCtx} {own : String} {cc : ByteArray} {nL : Nat} {nm : String} {ret : Option FieldType} {fr lo : Nat} (C : XOK X own cc nL nm ret fr lo) {pc : Nat} {L : List (Option Value)} {st : List Value} {h : XH} {n sl : Nat} {i : Int} {v : Int32} (d : decode cc pc = .ok (.iconst i, 1)) (hv : Int32.ofInt i = v) (kk : XW X (pc + 1) L (.int v :: st) h n sl) : XW X pc L st h n sl := by
  obtain ⟨⟨p, l, e, R⟩, ⟨s, m, args, below⟩, ⟨meth, c⟩, ⟨D, aT, B⟩, ⟨n0, sl0⟩, ⟨nC, sC⟩, Qx⟩ := X
  obtain ⟨hx, hb, hml, hr, hlk, hown, hnm, hts, hK, hF, hL, hRc, hRs, hB⟩ := C
  intro H locs ls kc z h1 h2 h3 h4 h5 h6
  exact lv_iconst hx hb d hv (kk H locs ls kc z h1 h2 h3 h4 h5 h6)
theorem xw_bipush {X : XCtx} {own : String} {cc : ByteArray} {nL : Nat} {nm : String} {ret : Option FieldType} {fr lo : Nat} (C : XOK X own cc nL nm ret fr lo) {pc : Nat} {L : List (Option Value)} {st : List Value} {h : XH} {n sl : Nat} {i : Int} {v : Int32} (d : decode cc pc = .ok (.bipush i, 2)) (hv : (Int8.ofInt i).toInt32 = v) (kk : XW X (pc + 2) L (.int v :: st) h n sl) : XW X pc L st h n sl := by
  obtain ⟨⟨p, l, e, R⟩, ⟨s, m, args, below⟩, ⟨meth, c⟩, ⟨D, aT, B⟩, ⟨n0, sl0⟩, ⟨nC, sC⟩, Qx⟩ := X
  obtain ⟨hx, hb, hml, hr, hlk, hown, hnm, hts, hK, hF, hL, hRc, hRs, hB⟩ := C
  intro H locs ls kc z h1 h2 h3 h4 h5 h6
  exact lv_bipush hx hb d hv (kk H locs ls kc z h1 h2 h3 h4 h5 h6)
theorem xw_sipush {X : XCtx} {own : String} {cc : ByteArray} {nL : Nat} {nm : String} {ret : Option FieldType} {fr lo : Nat} (C : XOK X own cc nL nm ret fr lo) {pc : Nat} {L : List (Option Value)} {st : List Value} {h : XH} {n sl : Nat} {i : Int} {v : Int32} (d : decode cc pc = .ok (.sipush i, 3)) (hv : (Int16.ofInt i).toInt32 = v) (kk : XW X (pc + 3) L (.int v :: st) h n sl) : XW X pc L st h n sl := by
  obtain ⟨⟨p, l, e, R⟩, ⟨s, m, args, below⟩, ⟨meth, c⟩, ⟨D, aT, B⟩, ⟨n0, sl0⟩, ⟨nC, sC⟩, Qx⟩ := X
  obtain ⟨hx, hb, hml, hr, hlk, hown, hnm, hts, hK, hF, hL, hRc, hRs, hB⟩ := C
  intro H locs ls kc z h1 h2 h3 h4 h5 h6
  exact lv_sipush hx hb d hv (kk H locs ls kc z h1 h2 h3 h4 h5 h6)
theorem xw_lconst {X : XCtx} {own : String} {cc : ByteArray} {nL : Nat} {nm : String} {ret : Option FieldType} {fr lo : Nat} (C : XOK X own cc nL nm ret fr lo) {pc : Nat} {L : List (Option Value)} {st : List Value} {h : XH} {n sl : Nat} {i : Fin 2} {v : Int64} (d : decode cc pc = .ok (.lconst i, 1)) (hv : Int64.ofNat (i : Nat) = v) (kk : XW X (pc + 1) L (.long v :: st) h n sl) : XW X pc L st h n sl := by
  obtain ⟨⟨p, l, e, R⟩, ⟨s, m, args, below⟩, ⟨meth, c⟩, ⟨D, aT, B⟩, ⟨n0, sl0⟩, ⟨nC, sC⟩, Qx⟩ := X
  obtain ⟨hx, hb, hml, hr, hlk, hown, hnm, hts, hK, hF, hL, hRc, hRs, hB⟩ := C
  intro H locs ls kc z h1 h2 h3 h4 h5 h6
  exact lv_lconst hx hb d hv (kk H locs ls kc z h1 h2 h3 h4 h5 h6)
theorem xw_ldc {X : XCtx} {own : String} {cc : ByteArray} {nL : Nat} {nm : String} {ret : Option FieldType} {fr lo : Nat} (C : XOK X own cc nL nm ret fr lo) {pc : Nat} {L : List (Option Value)} {st : List Value} {h : XH} {n sl : Nat} {i : Nat} {v : Int32} (d : decode cc pc = .ok (.ldc i, 2)) (hc : Cond.constant own i v ∈ tblG) (kk : XW X (pc + 2) L (.int v :: st) h n sl) : XW X pc L st h n sl := by
  obtain ⟨⟨p, l, e, R⟩, ⟨s, m, args, below⟩, ⟨meth, c⟩, ⟨D, aT, B⟩, ⟨n0, sl0⟩, ⟨nC, sC⟩, Qx⟩ := X
  obtain ⟨hx, hb, hml, hr, hlk, hown, hnm, hts, hK, hF, hL, hRc, hRs, hB⟩ := C
  intro H locs ls kc z h1 h2 h3 h4 h5 h6
  exact lv_ldc hx hb hown (hts _ hc) d (kk H locs ls kc z h1 h2 h3 h4 h5 h6)
theorem xw_ldcw {X : XCtx} {own : String} {cc : ByteArray} {nL : Nat} {nm : String} {ret : Option FieldType} {fr lo : Nat} (C : XOK X own cc nL nm ret fr lo) {pc : Nat} {L : List (Option Value)} {st : List Value} {h : XH} {n sl : Nat} {i : Nat} {v : Int32} (d : decode cc pc = .ok (.ldc_w i, 3)) (hc : Cond.constant own i v ∈ tblG) (kk : XW X (pc + 3) L (.int v :: st) h n sl) : XW X pc L st h n sl := by
  obtain ⟨⟨p, l, e, R⟩, ⟨s, m, args, below⟩, ⟨meth, c⟩, ⟨D, aT, B⟩, ⟨n0, sl0⟩, ⟨nC, sC⟩, Qx⟩ := X
  obtain ⟨hx, hb, hml, hr, hlk, hown, hnm, hts, hK, hF, hL, hRc, hRs, hB⟩ := C
  intro H locs ls kc z h1 h2 h3 h4 h5 h6
  exact lv_ldcw hx hb hown (hts _ hc) d (kk H locs ls kc z h1 h2 h3 h4 h5 h6)
theorem xw_ldc2 {X : XCtx} {own : String} {cc : ByteArray} {nL : Nat} {nm : String} {ret : Option FieldType} {fr lo : Nat} (C : XOK X own cc nL nm ret fr lo) {pc : Nat} {L : List (Option Value)} {st : List Value} {h : XH} {n sl : Nat} {i : Nat} {v : Int64} (d : decode cc pc = .ok (.ldc2_w i, 3)) (hc : Cond.constantLong own i v ∈ tblG) (kk : XW X (pc + 3) L (.long v :: st) h n sl) : XW X pc L st h n sl := by
  obtain ⟨⟨p, l, e, R⟩, ⟨s, m, args, below⟩, ⟨meth, c⟩, ⟨D, aT, B⟩, ⟨n0, sl0⟩, ⟨nC, sC⟩, Qx⟩ := X
  obtain ⟨hx, hb, hml, hr, hlk, hown, hnm, hts, hK, hF, hL, hRc, hRs, hB⟩ := C
  intro H locs ls kc z h1 h2 h3 h4 h5 h6
  exact lv_ldc2 hx hb hown (hts _ hc) d (kk H locs ls kc z h1 h2 h3 h4 h5 h6)
theorem xw_null {X : XCtx} {own : String} {cc : ByteArray} {nL : Nat} {nm : String} {ret : Option FieldType} {fr lo : Nat} (C : XOK X own cc nL nm ret fr lo) {pc : Nat} {L : List (Option Value)} {st : List Value} {h : XH} {n sl : Nat}  (d : decode cc pc = .ok (.aconst_null, 1))  (kk : XW X (pc + 1) L (.null :: st) h n sl) : XW X pc L st h n sl := by
  obtain ⟨⟨p, l, e, R⟩, ⟨s, m, args, below⟩, ⟨meth, c⟩, ⟨D, aT, B⟩, ⟨n0, sl0⟩, ⟨nC, sC⟩, Qx⟩ := X
  obtain ⟨hx, hb, hml, hr, hlk, hown, hnm, hts, hK, hF, hL, hRc, hRs, hB⟩ := C
  intro H locs ls kc z h1 h2 h3 h4 h5 h6
  exact lv_null hx hb d (kk H locs ls kc z h1 h2 h3 h4 h5 h6)
theorem xw_iload_n {X : XCtx} {own : String} {cc : ByteArray} {nL : Nat} {nm : String} {ret : Option FieldType} {fr lo : Nat} (C : XOK X own cc nL nm ret fr lo) {pc : Nat} {L : List (Option Value)} {st : List Value} {h : XH} {n sl : Nat} {k : Fin 4} {i : Nat} {x : Int32} (d : decode cc pc = .ok (.iload_n k, 1)) (hk : (k : Nat) = i) (hi : L[i]? = some (some (.int x))) (kk : XW X (pc + 1) L (.int x :: st) h n sl) : XW X pc L st h n sl := by
  obtain ⟨⟨p, l, e, R⟩, ⟨s, m, args, below⟩, ⟨meth, c⟩, ⟨D, aT, B⟩, ⟨n0, sl0⟩, ⟨nC, sC⟩, Qx⟩ := X
  obtain ⟨hx, hb, hml, hr, hlk, hown, hnm, hts, hK, hF, hL, hRc, hRs, hB⟩ := C
  intro H locs ls kc z h1 h2 h3 h4 h5 h6
  exact lv_iload_n hx hb d hk (h1.at hi) (kk H locs ls kc z h1 h2 h3 h4 h5 h6)
theorem xw_iload {X : XCtx} {own : String} {cc : ByteArray} {nL : Nat} {nm : String} {ret : Option FieldType} {fr lo : Nat} (C : XOK X own cc nL nm ret fr lo) {pc : Nat} {L : List (Option Value)} {st : List Value} {h : XH} {n sl : Nat} {i : Nat} {x : Int32} (d : decode cc pc = .ok (.iload i, 2)) (hi : L[i]? = some (some (.int x))) (kk : XW X (pc + 2) L (.int x :: st) h n sl) : XW X pc L st h n sl := by
  obtain ⟨⟨p, l, e, R⟩, ⟨s, m, args, below⟩, ⟨meth, c⟩, ⟨D, aT, B⟩, ⟨n0, sl0⟩, ⟨nC, sC⟩, Qx⟩ := X
  obtain ⟨hx, hb, hml, hr, hlk, hown, hnm, hts, hK, hF, hL, hRc, hRs, hB⟩ := C
  intro H locs ls kc z h1 h2 h3 h4 h5 h6
  exact lv_iload hx hb d (h1.at hi) (kk H locs ls kc z h1 h2 h3 h4 h5 h6)
theorem xw_lload_n {X : XCtx} {own : String} {cc : ByteArray} {nL : Nat} {nm : String} {ret : Option FieldType} {fr lo : Nat} (C : XOK X own cc nL nm ret fr lo) {pc : Nat} {L : List (Option Value)} {st : List Value} {h : XH} {n sl : Nat} {k : Fin 4} {i : Nat} {x : Int64} (d : decode cc pc = .ok (.lload_n k, 1)) (hk : (k : Nat) = i) (hi : L[i]? = some (some (.long x))) (kk : XW X (pc + 1) L (.long x :: st) h n sl) : XW X pc L st h n sl := by
  obtain ⟨⟨p, l, e, R⟩, ⟨s, m, args, below⟩, ⟨meth, c⟩, ⟨D, aT, B⟩, ⟨n0, sl0⟩, ⟨nC, sC⟩, Qx⟩ := X
  obtain ⟨hx, hb, hml, hr, hlk, hown, hnm, hts, hK, hF, hL, hRc, hRs, hB⟩ := C
  intro H locs ls kc z h1 h2 h3 h4 h5 h6
  exact lv_lload_n hx hb d hk (h1.at hi) (kk H locs ls kc z h1 h2 h3 h4 h5 h6)
theorem xw_lload {X : XCtx} {own : String} {cc : ByteArray} {nL : Nat} {nm : String} {ret : Option FieldType} {fr lo : Nat} (C : XOK X own cc nL nm ret fr lo) {pc : Nat} {L : List (Option Value)} {st : List Value} {h : XH} {n sl : Nat} {i : Nat} {x : Int64} (d : decode cc pc = .ok (.lload i, 2)) (hi : L[i]? = some (some (.long x))) (kk : XW X (pc + 2) L (.long x :: st) h n sl) : XW X pc L st h n sl := by
  obtain ⟨⟨p, l, e, R⟩, ⟨s, m, args, below⟩, ⟨meth, c⟩, ⟨D, aT, B⟩, ⟨n0, sl0⟩, ⟨nC, sC⟩, Qx⟩ := X
  obtain ⟨hx, hb, hml, hr, hlk, hown, hnm, hts, hK, hF, hL, hRc, hRs, hB⟩ := C
  intro H locs ls kc z h1 h2 h3 h4 h5 h6
  exact lv_lload hx hb d (h1.at hi) (kk H locs ls kc z h1 h2 h3 h4 h5 h6)
theorem xw_aload_n {X : XCtx} {own : String} {cc : ByteArray} {nL : Nat} {nm : String} {ret : Option FieldType} {fr lo : Nat} (C : XOK X own cc nL nm ret fr lo) {pc : Nat} {L : List (Option Value)} {st : List Value} {h : XH} {n sl : Nat} {k : Fin 4} {i x : Nat} (d : decode cc pc = .ok (.aload_n k, 1)) (hk : (k : Nat) = i) (hi : L[i]? = some (some (.ref x))) (kk : XW X (pc + 1) L (.ref x :: st) h n sl) : XW X pc L st h n sl := by
  obtain ⟨⟨p, l, e, R⟩, ⟨s, m, args, below⟩, ⟨meth, c⟩, ⟨D, aT, B⟩, ⟨n0, sl0⟩, ⟨nC, sC⟩, Qx⟩ := X
  obtain ⟨hx, hb, hml, hr, hlk, hown, hnm, hts, hK, hF, hL, hRc, hRs, hB⟩ := C
  intro H locs ls kc z h1 h2 h3 h4 h5 h6
  exact lv_aload_n hx hb d hk (h1.at hi) (kk H locs ls kc z h1 h2 h3 h4 h5 h6)
theorem xw_aload {X : XCtx} {own : String} {cc : ByteArray} {nL : Nat} {nm : String} {ret : Option FieldType} {fr lo : Nat} (C : XOK X own cc nL nm ret fr lo) {pc : Nat} {L : List (Option Value)} {st : List Value} {h : XH} {n sl : Nat} {i x : Nat} (d : decode cc pc = .ok (.aload i, 2)) (hi : L[i]? = some (some (.ref x))) (kk : XW X (pc + 2) L (.ref x :: st) h n sl) : XW X pc L st h n sl := by
  obtain ⟨⟨p, l, e, R⟩, ⟨s, m, args, below⟩, ⟨meth, c⟩, ⟨D, aT, B⟩, ⟨n0, sl0⟩, ⟨nC, sC⟩, Qx⟩ := X
  obtain ⟨hx, hb, hml, hr, hlk, hown, hnm, hts, hK, hF, hL, hRc, hRs, hB⟩ := C
  intro H locs ls kc z h1 h2 h3 h4 h5 h6
  exact lv_aload hx hb d (h1.at hi) (kk H locs ls kc z h1 h2 h3 h4 h5 h6)
theorem xw_aload_nQ {X : XCtx} {own : String} {cc : ByteArray} {nL : Nat} {nm : String} {ret : Option FieldType} {fr lo : Nat} (C : XOK X own cc nL nm ret fr lo) {pc : Nat} {L : List (Option Value)} {st : List Value} {h : XH} {n sl : Nat} {k : Fin 4} {i : Nat} {x : Option Nat} (d : decode cc pc = .ok (.aload_n k, 1)) (hk : (k : Nat) = i) (hi : L[i]? = some (some (va_rf x))) (kk : XW X (pc + 1) L (va_rf x :: st) h n sl) : XW X pc L st h n sl := by
  obtain ⟨⟨p, l, e, R⟩, ⟨s, m, args, below⟩, ⟨meth, c⟩, ⟨D, aT, B⟩, ⟨n0, sl0⟩, ⟨nC, sC⟩, Qx⟩ := X
  obtain ⟨hx, hb, hml, hr, hlk, hown, hnm, hts, hK, hF, hL, hRc, hRs, hB⟩ := C
  intro H locs ls kc z h1 h2 h3 h4 h5 h6
  cases x with
  | none => exact lv_aload_nN hx hb d hk (h1.at hi) (kk H locs ls kc z h1 h2 h3 h4 h5 h6)
  | some x => exact lv_aload_n hx hb d hk (h1.at hi) (kk H locs ls kc z h1 h2 h3 h4 h5 h6)
theorem xw_istore_n {X : XCtx} {own : String} {cc : ByteArray} {nL : Nat} {nm : String} {ret : Option FieldType} {fr lo : Nat} (C : XOK X own cc nL nm ret fr lo) {pc : Nat} {L : List (Option Value)} {st : List Value} {h : XH} {n sl : Nat} {k : Fin 4} {i : Nat} {x : Int32} {L' : List (Option Value)} (d : decode cc pc = .ok (.istore_n k, 1)) (hk : (k : Nat) = i) (hi : i < nL) (hL' : xst L i (.int x) = L') (kk : XW X (pc + 1) L' st h n sl) : XW X pc L ((.int x) :: st) h n sl := by
  obtain ⟨⟨p, l, e, R⟩, ⟨s, m, args, below⟩, ⟨meth, c⟩, ⟨D, aT, B⟩, ⟨n0, sl0⟩, ⟨nC, sC⟩, Qx⟩ := X
  obtain ⟨hx, hb, hml, hr, hlk, hown, hnm, hts, hK, hF, hL, hRc, hRs, hB⟩ := C
  intro H locs ls kc z h1 h2 h3 h4 h5 h6
  subst hL'
  refine lv_istore_n hx hb d hk h1 (by rw [hml]; exact hi) rfl (fun ls' hl' => ?_)
  exact kk H locs ls' kc z (XL.st1 hl') h2 h3 h4 h5 h6
theorem xw_istore {X : XCtx} {own : String} {cc : ByteArray} {nL : Nat} {nm : String} {ret : Option FieldType} {fr lo : Nat} (C : XOK X own cc nL nm ret fr lo) {pc : Nat} {L : List (Option Value)} {st : List Value} {h : XH} {n sl : Nat} {i : Nat} {x : Int32} {L' : List (Option Value)} (d : decode cc pc = .ok (.istore i, 2)) (hi : i < nL) (hL' : xst L i (.int x) = L') (kk : XW X (pc + 2) L' st h n sl) : XW X pc L ((.int x) :: st) h n sl := by
  obtain ⟨⟨p, l, e, R⟩, ⟨s, m, args, below⟩, ⟨meth, c⟩, ⟨D, aT, B⟩, ⟨n0, sl0⟩, ⟨nC, sC⟩, Qx⟩ := X
  obtain ⟨hx, hb, hml, hr, hlk, hown, hnm, hts, hK, hF, hL, hRc, hRs, hB⟩ := C
  intro H locs ls kc z h1 h2 h3 h4 h5 h6
  subst hL'
  refine lv_istore hx hb d h1 (by rw [hml]; exact hi) rfl (fun ls' hl' => ?_)
  exact kk H locs ls' kc z (XL.st1 hl') h2 h3 h4 h5 h6
theorem xw_lstore_n {X : XCtx} {own : String} {cc : ByteArray} {nL : Nat} {nm : String} {ret : Option FieldType} {fr lo : Nat} (C : XOK X own cc nL nm ret fr lo) {pc : Nat} {L : List (Option Value)} {st : List Value} {h : XH} {n sl : Nat} {k : Fin 4} {i : Nat} {x : Int64} {L' : List (Option Value)} (d : decode cc pc = .ok (.lstore_n k, 1)) (hk : (k : Nat) = i) (hi : i + 1 < nL) (hL' : xst2 L i (.long x) = L') (kk : XW X (pc + 1) L' st h n sl) : XW X pc L ((.long x) :: st) h n sl := by
  obtain ⟨⟨p, l, e, R⟩, ⟨s, m, args, below⟩, ⟨meth, c⟩, ⟨D, aT, B⟩, ⟨n0, sl0⟩, ⟨nC, sC⟩, Qx⟩ := X
  obtain ⟨hx, hb, hml, hr, hlk, hown, hnm, hts, hK, hF, hL, hRc, hRs, hB⟩ := C
  intro H locs ls kc z h1 h2 h3 h4 h5 h6
  subst hL'
  refine lv_lstore_n hx hb d hk h1 (by rw [hml]; exact hi) rfl (fun ls' hl' => ?_)
  exact kk H locs ls' kc z (XL.st2 hl') h2 h3 h4 h5 h6
theorem xw_lstore {X : XCtx} {own : String} {cc : ByteArray} {nL : Nat} {nm : String} {ret : Option FieldType} {fr lo : Nat} (C : XOK X own cc nL nm ret fr lo) {pc : Nat} {L : List (Option Value)} {st : List Value} {h : XH} {n sl : Nat} {i : Nat} {x : Int64} {L' : List (Option Value)} (d : decode cc pc = .ok (.lstore i, 2)) (hi : i + 1 < nL) (hL' : xst2 L i (.long x) = L') (kk : XW X (pc + 2) L' st h n sl) : XW X pc L ((.long x) :: st) h n sl := by
  obtain ⟨⟨p, l, e, R⟩, ⟨s, m, args, below⟩, ⟨meth, c⟩, ⟨D, aT, B⟩, ⟨n0, sl0⟩, ⟨nC, sC⟩, Qx⟩ := X
  obtain ⟨hx, hb, hml, hr, hlk, hown, hnm, hts, hK, hF, hL, hRc, hRs, hB⟩ := C
  intro H locs ls kc z h1 h2 h3 h4 h5 h6
  subst hL'
  refine lv_lstore hx hb d h1 (by rw [hml]; exact hi) rfl (fun ls' hl' => ?_)
  exact kk H locs ls' kc z (XL.st2 hl') h2 h3 h4 h5 h6
theorem xw_astore_n {X : XCtx} {own : String} {cc : ByteArray} {nL : Nat} {nm : String} {ret : Option FieldType} {fr lo : Nat} (C : XOK X own cc nL nm ret fr lo) {pc : Nat} {L : List (Option Value)} {st : List Value} {h : XH} {n sl : Nat} {k : Fin 4} {i : Nat} {x : Nat} {L' : List (Option Value)} (d : decode cc pc = .ok (.astore_n k, 1)) (hk : (k : Nat) = i) (hi : i < nL) (hL' : xst L i (.ref x) = L') (kk : XW X (pc + 1) L' st h n sl) : XW X pc L ((.ref x) :: st) h n sl := by
  obtain ⟨⟨p, l, e, R⟩, ⟨s, m, args, below⟩, ⟨meth, c⟩, ⟨D, aT, B⟩, ⟨n0, sl0⟩, ⟨nC, sC⟩, Qx⟩ := X
  obtain ⟨hx, hb, hml, hr, hlk, hown, hnm, hts, hK, hF, hL, hRc, hRs, hB⟩ := C
  intro H locs ls kc z h1 h2 h3 h4 h5 h6
  subst hL'
  refine lv_astore_n hx hb d hk h1 (by rw [hml]; exact hi) rfl (fun ls' hl' => ?_)
  exact kk H locs ls' kc z (XL.st1 hl') h2 h3 h4 h5 h6
theorem xw_astore {X : XCtx} {own : String} {cc : ByteArray} {nL : Nat} {nm : String} {ret : Option FieldType} {fr lo : Nat} (C : XOK X own cc nL nm ret fr lo) {pc : Nat} {L : List (Option Value)} {st : List Value} {h : XH} {n sl : Nat} {i : Nat} {x : Nat} {L' : List (Option Value)} (d : decode cc pc = .ok (.astore i, 2)) (hi : i < nL) (hL' : xst L i (.ref x) = L') (kk : XW X (pc + 2) L' st h n sl) : XW X pc L ((.ref x) :: st) h n sl := by
  obtain ⟨⟨p, l, e, R⟩, ⟨s, m, args, below⟩, ⟨meth, c⟩, ⟨D, aT, B⟩, ⟨n0, sl0⟩, ⟨nC, sC⟩, Qx⟩ := X
  obtain ⟨hx, hb, hml, hr, hlk, hown, hnm, hts, hK, hF, hL, hRc, hRs, hB⟩ := C
  intro H locs ls kc z h1 h2 h3 h4 h5 h6
  subst hL'
  refine lv_astore hx hb d h1 (by rw [hml]; exact hi) rfl (fun ls' hl' => ?_)
  exact kk H locs ls' kc z (XL.st1 hl') h2 h3 h4 h5 h6
theorem xw_astore_nQ {X : XCtx} {own : String} {cc : ByteArray} {nL : Nat} {nm : String} {ret : Option FieldType} {fr lo : Nat} (C : XOK X own cc nL nm ret fr lo) {pc : Nat} {L : List (Option Value)} {st : List Value} {h : XH} {n sl : Nat} {k : Fin 4} {i : Nat} {x : Option Nat} {L' : List (Option Value)} (d : decode cc pc = .ok (.astore_n k, 1)) (hk : (k : Nat) = i) (hi : i < nL) (hL' : xst L i (va_rf x) = L') (kk : XW X (pc + 1) L' st h n sl) : XW X pc L (va_rf x :: st) h n sl := by
  obtain ⟨⟨p, l, e, R⟩, ⟨s, m, args, below⟩, ⟨meth, c⟩, ⟨D, aT, B⟩, ⟨n0, sl0⟩, ⟨nC, sC⟩, Qx⟩ := X
  obtain ⟨hx, hb, hml, hr, hlk, hown, hnm, hts, hK, hF, hL, hRc, hRs, hB⟩ := C
  intro H locs ls kc z h1 h2 h3 h4 h5 h6
  subst hL'
  cases x with
  | none =>
    refine lv_astore_nN hx hb d hk h1 (by rw [hml]; exact hi) rfl (fun ls' hl' => ?_)
    exact kk H locs ls' kc z (XL.st1 (v := .null) hl') h2 h3 h4 h5 h6
  | some x =>
    refine lv_astore_n hx hb d hk h1 (by rw [hml]; exact hi) rfl (fun ls' hl' => ?_)
    exact kk H locs ls' kc z (XL.st1 (v := .ref x) hl') h2 h3 h4 h5 h6
theorem xw_iinc {X : XCtx} {own : String} {cc : ByteArray} {nL : Nat} {nm : String} {ret : Option FieldType} {fr lo : Nat} (C : XOK X own cc nL nm ret fr lo) {pc : Nat} {L : List (Option Value)} {st : List Value} {h : XH} {n sl : Nat} {i : Nat} {j : Int} {x v : Int32} {L' : List (Option Value)} (d : decode cc pc = .ok (.iinc i j, 3)) (hx0 : L[i]? = some (some (.int x))) (hv : x + Int32.ofInt j = v) (hi : i < nL) (hL' : xst L i (.int v) = L') (kk : XW X (pc + 3) L' st h n sl) : XW X pc L st h n sl := by
  obtain ⟨⟨p, l, e, R⟩, ⟨s, m, args, below⟩, ⟨meth, c⟩, ⟨D, aT, B⟩, ⟨n0, sl0⟩, ⟨nC, sC⟩, Qx⟩ := X
  obtain ⟨hx, hb, hml, hr, hlk, hown, hnm, hts, hK, hF, hL, hRc, hRs, hB⟩ := C
  intro H locs ls kc z h1 h2 h3 h4 h5 h6
  subst hL'
  obtain ⟨k, hk⟩ := List.getElem?_of_mem ((xls_mem B L 0 i (.int x)).mpr ⟨i, .int x, hx0, by omega, rfl⟩)
  refine lv_iinc (k := k) (v := v) hx hb d h1 hk hv (by rw [hml]; exact hi) rfl (fun ls' hl' => ?_)
  exact kk H locs ls' kc z (XL.st1 (v := .int v) hl') h2 h3 h4 h5 h6
theorem xw_iadd {X : XCtx} {own : String} {cc : ByteArray} {nL : Nat} {nm : String} {ret : Option FieldType} {fr lo : Nat} (C : XOK X own cc nL nm ret fr lo) {pc : Nat} {L : List (Option Value)} {st : List Value} {h : XH} {n sl : Nat} {x y : Int32} (d : decode cc pc = .ok (.iadd, 1))  (kk : XW X (pc + 1) L (.int (x + y) :: st) h n sl) : XW X pc L (.int y :: .int x :: st) h n sl := by
  obtain ⟨⟨p, l, e, R⟩, ⟨s, m, args, below⟩, ⟨meth, c⟩, ⟨D, aT, B⟩, ⟨n0, sl0⟩, ⟨nC, sC⟩, Qx⟩ := X
  obtain ⟨hx, hb, hml, hr, hlk, hown, hnm, hts, hK, hF, hL, hRc, hRs, hB⟩ := C
  intro H locs ls kc z h1 h2 h3 h4 h5 h6
  exact lv_iadd hx hb d  (kk H locs ls kc z h1 h2 h3 h4 h5 h6)
theorem xw_isub {X : XCtx} {own : String} {cc : ByteArray} {nL : Nat} {nm : String} {ret : Option FieldType} {fr lo : Nat} (C : XOK X own cc nL nm ret fr lo) {pc : Nat} {L : List (Option Value)} {st : List Value} {h : XH} {n sl : Nat} {x y : Int32} (d : decode cc pc = .ok (.isub, 1))  (kk : XW X (pc + 1) L (.int (x - y) :: st) h n sl) : XW X pc L (.int y :: .int x :: st) h n sl := by
  obtain ⟨⟨p, l, e, R⟩, ⟨s, m, args, below⟩, ⟨meth, c⟩, ⟨D, aT, B⟩, ⟨n0, sl0⟩, ⟨nC, sC⟩, Qx⟩ := X
  obtain ⟨hx, hb, hml, hr, hlk, hown, hnm, hts, hK, hF, hL, hRc, hRs, hB⟩ := C
  intro H locs ls kc z h1 h2 h3 h4 h5 h6
  exact lv_isub hx hb d  (kk H locs ls kc z h1 h2 h3 h4 h5 h6)
theorem xw_imul {X : XCtx} {own : String} {cc : ByteArray} {nL : Nat} {nm : String} {ret : Option FieldType} {fr lo : Nat} (C : XOK X own cc nL nm ret fr lo) {pc : Nat} {L : List (Option Value)} {st : List Value} {h : XH} {n sl : Nat} {x y : Int32} (d : decode cc pc = .ok (.imul, 1))  (kk : XW X (pc + 1) L (.int (x * y) :: st) h n sl) : XW X pc L (.int y :: .int x :: st) h n sl := by
  obtain ⟨⟨p, l, e, R⟩, ⟨s, m, args, below⟩, ⟨meth, c⟩, ⟨D, aT, B⟩, ⟨n0, sl0⟩, ⟨nC, sC⟩, Qx⟩ := X
  obtain ⟨hx, hb, hml, hr, hlk, hown, hnm, hts, hK, hF, hL, hRc, hRs, hB⟩ := C
  intro H locs ls kc z h1 h2 h3 h4 h5 h6
  exact lv_imul hx hb d  (kk H locs ls kc z h1 h2 h3 h4 h5 h6)
theorem xw_iand {X : XCtx} {own : String} {cc : ByteArray} {nL : Nat} {nm : String} {ret : Option FieldType} {fr lo : Nat} (C : XOK X own cc nL nm ret fr lo) {pc : Nat} {L : List (Option Value)} {st : List Value} {h : XH} {n sl : Nat} {x y : Int32} (d : decode cc pc = .ok (.iand, 1))  (kk : XW X (pc + 1) L (.int (x &&& y) :: st) h n sl) : XW X pc L (.int y :: .int x :: st) h n sl := by
  obtain ⟨⟨p, l, e, R⟩, ⟨s, m, args, below⟩, ⟨meth, c⟩, ⟨D, aT, B⟩, ⟨n0, sl0⟩, ⟨nC, sC⟩, Qx⟩ := X
  obtain ⟨hx, hb, hml, hr, hlk, hown, hnm, hts, hK, hF, hL, hRc, hRs, hB⟩ := C
  intro H locs ls kc z h1 h2 h3 h4 h5 h6
  exact lv_iand hx hb d  (kk H locs ls kc z h1 h2 h3 h4 h5 h6)
theorem xw_ior {X : XCtx} {own : String} {cc : ByteArray} {nL : Nat} {nm : String} {ret : Option FieldType} {fr lo : Nat} (C : XOK X own cc nL nm ret fr lo) {pc : Nat} {L : List (Option Value)} {st : List Value} {h : XH} {n sl : Nat} {x y : Int32} (d : decode cc pc = .ok (.ior, 1))  (kk : XW X (pc + 1) L (.int (x ||| y) :: st) h n sl) : XW X pc L (.int y :: .int x :: st) h n sl := by
  obtain ⟨⟨p, l, e, R⟩, ⟨s, m, args, below⟩, ⟨meth, c⟩, ⟨D, aT, B⟩, ⟨n0, sl0⟩, ⟨nC, sC⟩, Qx⟩ := X
  obtain ⟨hx, hb, hml, hr, hlk, hown, hnm, hts, hK, hF, hL, hRc, hRs, hB⟩ := C
  intro H locs ls kc z h1 h2 h3 h4 h5 h6
  exact lv_ior hx hb d  (kk H locs ls kc z h1 h2 h3 h4 h5 h6)
theorem xw_ixor {X : XCtx} {own : String} {cc : ByteArray} {nL : Nat} {nm : String} {ret : Option FieldType} {fr lo : Nat} (C : XOK X own cc nL nm ret fr lo) {pc : Nat} {L : List (Option Value)} {st : List Value} {h : XH} {n sl : Nat} {x y : Int32} (d : decode cc pc = .ok (.ixor, 1))  (kk : XW X (pc + 1) L (.int (x ^^^ y) :: st) h n sl) : XW X pc L (.int y :: .int x :: st) h n sl := by
  obtain ⟨⟨p, l, e, R⟩, ⟨s, m, args, below⟩, ⟨meth, c⟩, ⟨D, aT, B⟩, ⟨n0, sl0⟩, ⟨nC, sC⟩, Qx⟩ := X
  obtain ⟨hx, hb, hml, hr, hlk, hown, hnm, hts, hK, hF, hL, hRc, hRs, hB⟩ := C
  intro H locs ls kc z h1 h2 h3 h4 h5 h6
  exact lv_ixor hx hb d  (kk H locs ls kc z h1 h2 h3 h4 h5 h6)
theorem xw_ishl {X : XCtx} {own : String} {cc : ByteArray} {nL : Nat} {nm : String} {ret : Option FieldType} {fr lo : Nat} (C : XOK X own cc nL nm ret fr lo) {pc : Nat} {L : List (Option Value)} {st : List Value} {h : XH} {n sl : Nat} {x y : Int32} (d : decode cc pc = .ok (.ishl, 1))  (kk : XW X (pc + 1) L (.int (x <<< (y &&& 31)) :: st) h n sl) : XW X pc L (.int y :: .int x :: st) h n sl := by
  obtain ⟨⟨p, l, e, R⟩, ⟨s, m, args, below⟩, ⟨meth, c⟩, ⟨D, aT, B⟩, ⟨n0, sl0⟩, ⟨nC, sC⟩, Qx⟩ := X
  obtain ⟨hx, hb, hml, hr, hlk, hown, hnm, hts, hK, hF, hL, hRc, hRs, hB⟩ := C
  intro H locs ls kc z h1 h2 h3 h4 h5 h6
  exact lv_ishl hx hb d  (kk H locs ls kc z h1 h2 h3 h4 h5 h6)
theorem xw_ishr {X : XCtx} {own : String} {cc : ByteArray} {nL : Nat} {nm : String} {ret : Option FieldType} {fr lo : Nat} (C : XOK X own cc nL nm ret fr lo) {pc : Nat} {L : List (Option Value)} {st : List Value} {h : XH} {n sl : Nat} {x y : Int32} (d : decode cc pc = .ok (.ishr, 1))  (kk : XW X (pc + 1) L (.int (x >>> (y &&& 31)) :: st) h n sl) : XW X pc L (.int y :: .int x :: st) h n sl := by
  obtain ⟨⟨p, l, e, R⟩, ⟨s, m, args, below⟩, ⟨meth, c⟩, ⟨D, aT, B⟩, ⟨n0, sl0⟩, ⟨nC, sC⟩, Qx⟩ := X
  obtain ⟨hx, hb, hml, hr, hlk, hown, hnm, hts, hK, hF, hL, hRc, hRs, hB⟩ := C
  intro H locs ls kc z h1 h2 h3 h4 h5 h6
  exact lv_ishr hx hb d  (kk H locs ls kc z h1 h2 h3 h4 h5 h6)
def xrem (x y : Int32) : Int32 := x - x / y * y
def xushr (x y : Int32) : Int32 := (x.toUInt32 >>> (y.toUInt32 &&& Int32.toUInt32 31)).toInt32
def xlushr (x : Int64) (y : Int32) : Int64 := (x.toUInt64 >>> (y.toInt64.toUInt64 &&& Int64.toUInt64 63)).toInt64
def xlshl (x : Int64) (y : Int32) : Int64 := x <<< (y.toInt64 &&& 63)
theorem xw_idiv {X : XCtx} {own : String} {cc : ByteArray} {nL : Nat} {nm : String} {ret : Option FieldType} {fr lo : Nat} (C : XOK X own cc nL nm ret fr lo) {pc : Nat} {L : List (Option Value)} {st : List Value} {h : XH} {n sl : Nat} {x y : Int32} (d : decode cc pc = .ok (.idiv, 1)) (hne : ¬ y = 0) (kk : XW X (pc + 1) L (.int (x / y) :: st) h n sl) : XW X pc L (.int y :: .int x :: st) h n sl := by
  obtain ⟨⟨p, l, e, R⟩, ⟨s, m, args, below⟩, ⟨meth, c⟩, ⟨D, aT, B⟩, ⟨n0, sl0⟩, ⟨nC, sC⟩, Qx⟩ := X
  obtain ⟨hx, hb, hml, hr, hlk, hown, hnm, hts, hK, hF, hL, hRc, hRs, hB⟩ := C
  intro H locs ls kc z h1 h2 h3 h4 h5 h6
  exact lv_idiv hx hb d hne (kk H locs ls kc z h1 h2 h3 h4 h5 h6)
theorem xw_irem {X : XCtx} {own : String} {cc : ByteArray} {nL : Nat} {nm : String} {ret : Option FieldType} {fr lo : Nat} (C : XOK X own cc nL nm ret fr lo) {pc : Nat} {L : List (Option Value)} {st : List Value} {h : XH} {n sl : Nat} {x y : Int32} (d : decode cc pc = .ok (.irem, 1)) (hne : ¬ y = 0) (kk : XW X (pc + 1) L (.int (xrem x y) :: st) h n sl) : XW X pc L (.int y :: .int x :: st) h n sl := by
  obtain ⟨⟨p, l, e, R⟩, ⟨s, m, args, below⟩, ⟨meth, c⟩, ⟨D, aT, B⟩, ⟨n0, sl0⟩, ⟨nC, sC⟩, Qx⟩ := X
  obtain ⟨hx, hb, hml, hr, hlk, hown, hnm, hts, hK, hF, hL, hRc, hRs, hB⟩ := C
  intro H locs ls kc z h1 h2 h3 h4 h5 h6
  exact lv_irem hx hb d hne (kk H locs ls kc z h1 h2 h3 h4 h5 h6)
theorem xw_ineg {X : XCtx} {own : String} {cc : ByteArray} {nL : Nat} {nm : String} {ret : Option FieldType} {fr lo : Nat} (C : XOK X own cc nL nm ret fr lo) {pc : Nat} {L : List (Option Value)} {st : List Value} {h : XH} {n sl : Nat} {x : Int32} (d : decode cc pc = .ok (.ineg, 1))  (kk : XW X (pc + 1) L (.int (-x) :: st) h n sl) : XW X pc L (.int x :: st) h n sl := by
  obtain ⟨⟨p, l, e, R⟩, ⟨s, m, args, below⟩, ⟨meth, c⟩, ⟨D, aT, B⟩, ⟨n0, sl0⟩, ⟨nC, sC⟩, Qx⟩ := X
  obtain ⟨hx, hb, hml, hr, hlk, hown, hnm, hts, hK, hF, hL, hRc, hRs, hB⟩ := C
  intro H locs ls kc z h1 h2 h3 h4 h5 h6
  exact lv_ineg hx hb d  (kk H locs ls kc z h1 h2 h3 h4 h5 h6)
theorem xw_ladd {X : XCtx} {own : String} {cc : ByteArray} {nL : Nat} {nm : String} {ret : Option FieldType} {fr lo : Nat} (C : XOK X own cc nL nm ret fr lo) {pc : Nat} {L : List (Option Value)} {st : List Value} {h : XH} {n sl : Nat} {x y : Int64} (d : decode cc pc = .ok (.ladd, 1))  (kk : XW X (pc + 1) L (.long (x + y) :: st) h n sl) : XW X pc L (.long y :: .long x :: st) h n sl := by
  obtain ⟨⟨p, l, e, R⟩, ⟨s, m, args, below⟩, ⟨meth, c⟩, ⟨D, aT, B⟩, ⟨n0, sl0⟩, ⟨nC, sC⟩, Qx⟩ := X
  obtain ⟨hx, hb, hml, hr, hlk, hown, hnm, hts, hK, hF, hL, hRc, hRs, hB⟩ := C
  intro H locs ls kc z h1 h2 h3 h4 h5 h6
  exact lv_ladd hx hb d  (kk H locs ls kc z h1 h2 h3 h4 h5 h6)
theorem xw_lsub {X : XCtx} {own : String} {cc : ByteArray} {nL : Nat} {nm : String} {ret : Option FieldType} {fr lo : Nat} (C : XOK X own cc nL nm ret fr lo) {pc : Nat} {L : List (Option Value)} {st : List Value} {h : XH} {n sl : Nat} {x y : Int64} (d : decode cc pc = .ok (.lsub, 1))  (kk : XW X (pc + 1) L (.long (x - y) :: st) h n sl) : XW X pc L (.long y :: .long x :: st) h n sl := by
  obtain ⟨⟨p, l, e, R⟩, ⟨s, m, args, below⟩, ⟨meth, c⟩, ⟨D, aT, B⟩, ⟨n0, sl0⟩, ⟨nC, sC⟩, Qx⟩ := X
  obtain ⟨hx, hb, hml, hr, hlk, hown, hnm, hts, hK, hF, hL, hRc, hRs, hB⟩ := C
  intro H locs ls kc z h1 h2 h3 h4 h5 h6
  exact lv_lsub hx hb d  (kk H locs ls kc z h1 h2 h3 h4 h5 h6)
theorem xw_lmul {X : XCtx} {own : String} {cc : ByteArray} {nL : Nat} {nm : String} {ret : Option FieldType} {fr lo : Nat} (C : XOK X own cc nL nm ret fr lo) {pc : Nat} {L : List (Option Value)} {st : List Value} {h : XH} {n sl : Nat} {x y : Int64} (d : decode cc pc = .ok (.lmul, 1))  (kk : XW X (pc + 1) L (.long (x * y) :: st) h n sl) : XW X pc L (.long y :: .long x :: st) h n sl := by
  obtain ⟨⟨p, l, e, R⟩, ⟨s, m, args, below⟩, ⟨meth, c⟩, ⟨D, aT, B⟩, ⟨n0, sl0⟩, ⟨nC, sC⟩, Qx⟩ := X
  obtain ⟨hx, hb, hml, hr, hlk, hown, hnm, hts, hK, hF, hL, hRc, hRs, hB⟩ := C
  intro H locs ls kc z h1 h2 h3 h4 h5 h6
  exact lv_lmul hx hb d  (kk H locs ls kc z h1 h2 h3 h4 h5 h6)
theorem xw_land {X : XCtx} {own : String} {cc : ByteArray} {nL : Nat} {nm : String} {ret : Option FieldType} {fr lo : Nat} (C : XOK X own cc nL nm ret fr lo) {pc : Nat} {L : List (Option Value)} {st : List Value} {h : XH} {n sl : Nat} {x y : Int64} (d : decode cc pc = .ok (.land, 1))  (kk : XW X (pc + 1) L (.long (x &&& y) :: st) h n sl) : XW X pc L (.long y :: .long x :: st) h n sl := by
  obtain ⟨⟨p, l, e, R⟩, ⟨s, m, args, below⟩, ⟨meth, c⟩, ⟨D, aT, B⟩, ⟨n0, sl0⟩, ⟨nC, sC⟩, Qx⟩ := X
  obtain ⟨hx, hb, hml, hr, hlk, hown, hnm, hts, hK, hF, hL, hRc, hRs, hB⟩ := C
  intro H locs ls kc z h1 h2 h3 h4 h5 h6
  exact lv_land hx hb d  (kk H locs ls kc z h1 h2 h3 h4 h5 h6)
theorem xw_lor {X : XCtx} {own : String} {cc : ByteArray} {nL : Nat} {nm : String} {ret : Option FieldType} {fr lo : Nat} (C : XOK X own cc nL nm ret fr lo) {pc : Nat} {L : List (Option Value)} {st : List Value} {h : XH} {n sl : Nat} {x y : Int64} (d : decode cc pc = .ok (.lor, 1))  (kk : XW X (pc + 1) L (.long (x ||| y) :: st) h n sl) : XW X pc L (.long y :: .long x :: st) h n sl := by
  obtain ⟨⟨p, l, e, R⟩, ⟨s, m, args, below⟩, ⟨meth, c⟩, ⟨D, aT, B⟩, ⟨n0, sl0⟩, ⟨nC, sC⟩, Qx⟩ := X
  obtain ⟨hx, hb, hml, hr, hlk, hown, hnm, hts, hK, hF, hL, hRc, hRs, hB⟩ := C
  intro H locs ls kc z h1 h2 h3 h4 h5 h6
  exact lv_lor hx hb d  (kk H locs ls kc z h1 h2 h3 h4 h5 h6)
theorem xw_i2l {X : XCtx} {own : String} {cc : ByteArray} {nL : Nat} {nm : String} {ret : Option FieldType} {fr lo : Nat} (C : XOK X own cc nL nm ret fr lo) {pc : Nat} {L : List (Option Value)} {st : List Value} {h : XH} {n sl : Nat} {x : Int32} (d : decode cc pc = .ok (.i2l, 1))  (kk : XW X (pc + 1) L (.long x.toInt64 :: st) h n sl) : XW X pc L (.int x :: st) h n sl := by
  obtain ⟨⟨p, l, e, R⟩, ⟨s, m, args, below⟩, ⟨meth, c⟩, ⟨D, aT, B⟩, ⟨n0, sl0⟩, ⟨nC, sC⟩, Qx⟩ := X
  obtain ⟨hx, hb, hml, hr, hlk, hown, hnm, hts, hK, hF, hL, hRc, hRs, hB⟩ := C
  intro H locs ls kc z h1 h2 h3 h4 h5 h6
  exact lv_i2l hx hb d rfl (kk H locs ls kc z h1 h2 h3 h4 h5 h6)
theorem xw_l2i {X : XCtx} {own : String} {cc : ByteArray} {nL : Nat} {nm : String} {ret : Option FieldType} {fr lo : Nat} (C : XOK X own cc nL nm ret fr lo) {pc : Nat} {L : List (Option Value)} {st : List Value} {h : XH} {n sl : Nat} {x : Int64} (d : decode cc pc = .ok (.l2i, 1))  (kk : XW X (pc + 1) L (.int x.toInt32 :: st) h n sl) : XW X pc L (.long x :: st) h n sl := by
  obtain ⟨⟨p, l, e, R⟩, ⟨s, m, args, below⟩, ⟨meth, c⟩, ⟨D, aT, B⟩, ⟨n0, sl0⟩, ⟨nC, sC⟩, Qx⟩ := X
  obtain ⟨hx, hb, hml, hr, hlk, hown, hnm, hts, hK, hF, hL, hRc, hRs, hB⟩ := C
  intro H locs ls kc z h1 h2 h3 h4 h5 h6
  exact lv_l2i hx hb d rfl (kk H locs ls kc z h1 h2 h3 h4 h5 h6)
theorem xw_iushr {X : XCtx} {own : String} {cc : ByteArray} {nL : Nat} {nm : String} {ret : Option FieldType} {fr lo : Nat} (C : XOK X own cc nL nm ret fr lo) {pc : Nat} {L : List (Option Value)} {st : List Value} {h : XH} {n sl : Nat} {x y : Int32} (d : decode cc pc = .ok (.iushr, 1))  (kk : XW X (pc + 1) L (.int (xushr x y) :: st) h n sl) : XW X pc L (.int y :: .int x :: st) h n sl := by
  obtain ⟨⟨p, l, e, R⟩, ⟨s, m, args, below⟩, ⟨meth, c⟩, ⟨D, aT, B⟩, ⟨n0, sl0⟩, ⟨nC, sC⟩, Qx⟩ := X
  obtain ⟨hx, hb, hml, hr, hlk, hown, hnm, hts, hK, hF, hL, hRc, hRs, hB⟩ := C
  intro H locs ls kc z h1 h2 h3 h4 h5 h6
  exact lv_iushr hx hb d rfl (kk H locs ls kc z h1 h2 h3 h4 h5 h6)
theorem xw_lushr {X : XCtx} {own : String} {cc : ByteArray} {nL : Nat} {nm : String} {ret : Option FieldType} {fr lo : Nat} (C : XOK X own cc nL nm ret fr lo) {pc : Nat} {L : List (Option Value)} {st : List Value} {h : XH} {n sl : Nat} {x : Int64} {y : Int32} (d : decode cc pc = .ok (.lushr, 1))  (kk : XW X (pc + 1) L (.long (xlushr x y) :: st) h n sl) : XW X pc L (.int y :: .long x :: st) h n sl := by
  obtain ⟨⟨p, l, e, R⟩, ⟨s, m, args, below⟩, ⟨meth, c⟩, ⟨D, aT, B⟩, ⟨n0, sl0⟩, ⟨nC, sC⟩, Qx⟩ := X
  obtain ⟨hx, hb, hml, hr, hlk, hown, hnm, hts, hK, hF, hL, hRc, hRs, hB⟩ := C
  intro H locs ls kc z h1 h2 h3 h4 h5 h6
  exact lv_lushr hx hb d rfl (kk H locs ls kc z h1 h2 h3 h4 h5 h6)
theorem xw_lshl {X : XCtx} {own : String} {cc : ByteArray} {nL : Nat} {nm : String} {ret : Option FieldType} {fr lo : Nat} (C : XOK X own cc nL nm ret fr lo) {pc : Nat} {L : List (Option Value)} {st : List Value} {h : XH} {n sl : Nat} {x : Int64} {y : Int32} (d : decode cc pc = .ok (.lshl, 1))  (kk : XW X (pc + 1) L (.long (xlshl x y) :: st) h n sl) : XW X pc L (.int y :: .long x :: st) h n sl := by
  obtain ⟨⟨p, l, e, R⟩, ⟨s, m, args, below⟩, ⟨meth, c⟩, ⟨D, aT, B⟩, ⟨n0, sl0⟩, ⟨nC, sC⟩, Qx⟩ := X
  obtain ⟨hx, hb, hml, hr, hlk, hown, hnm, hts, hK, hF, hL, hRc, hRs, hB⟩ := C
  intro H locs ls kc z h1 h2 h3 h4 h5 h6
  exact lv_lshl hx hb d rfl (kk H locs ls kc z h1 h2 h3 h4 h5 h6)
theorem xw_lcmp {X : XCtx} {own : String} {cc : ByteArray} {nL : Nat} {nm : String} {ret : Option FieldType} {fr lo : Nat} (C : XOK X own cc nL nm ret fr lo) {pc : Nat} {L : List (Option Value)} {st : List Value} {h : XH} {n sl : Nat} {x y : Int64} (d : decode cc pc = .ok (.lcmp, 1))  (kk : XW X (pc + 1) L (.int (lg_cmp x y) :: st) h n sl) : XW X pc L (.long y :: .long x :: st) h n sl := by
  obtain ⟨⟨p, l, e, R⟩, ⟨s, m, args, below⟩, ⟨meth, c⟩, ⟨D, aT, B⟩, ⟨n0, sl0⟩, ⟨nC, sC⟩, Qx⟩ := X
  obtain ⟨hx, hb, hml, hr, hlk, hown, hnm, hts, hK, hF, hL, hRc, hRs, hB⟩ := C
  intro H locs ls kc z h1 h2 h3 h4 h5 h6
  exact W.lcmp hx hb d (kk H locs ls kc z h1 h2 h3 h4 h5 h6)
theorem xw_dup {X : XCtx} {own : String} {cc : ByteArray} {nL : Nat} {nm : String} {ret : Option FieldType} {fr lo : Nat} (C : XOK X own cc nL nm ret fr lo) {pc : Nat} {L : List (Option Value)} {st : List Value} {h : XH} {n sl : Nat} {v : Value} (d : decode cc pc = .ok (.dup, 1)) (hc : v.category = 1) (kk : XW X (pc + 1) L (v :: v :: st) h n sl) : XW X pc L (v :: st) h n sl := by
  obtain ⟨⟨p, l, e, R⟩, ⟨s, m, args, below⟩, ⟨meth, c⟩, ⟨D, aT, B⟩, ⟨n0, sl0⟩, ⟨nC, sC⟩, Qx⟩ := X
  obtain ⟨hx, hb, hml, hr, hlk, hown, hnm, hts, hK, hF, hL, hRc, hRs, hB⟩ := C
  intro H locs ls kc z h1 h2 h3 h4 h5 h6
  exact lv_dup hx hb d (by rw [xv_cat]; exact hc) (kk H locs ls kc z h1 h2 h3 h4 h5 h6)
theorem xw_dup2 {X : XCtx} {own : String} {cc : ByteArray} {nL : Nat} {nm : String} {ret : Option FieldType} {fr lo : Nat} (C : XOK X own cc nL nm ret fr lo) {pc : Nat} {L : List (Option Value)} {st : List Value} {h : XH} {n sl : Nat} {v w : Value} (d : decode cc pc = .ok (.dup2, 1)) (hc : v.category = 1) (hw : w.category = 1) (kk : XW X (pc + 1) L (v :: w :: v :: w :: st) h n sl) : XW X pc L (v :: w :: st) h n sl := by
  obtain ⟨⟨p, l, e, R⟩, ⟨s, m, args, below⟩, ⟨meth, c⟩, ⟨D, aT, B⟩, ⟨n0, sl0⟩, ⟨nC, sC⟩, Qx⟩ := X
  obtain ⟨hx, hb, hml, hr, hlk, hown, hnm, hts, hK, hF, hL, hRc, hRs, hB⟩ := C
  intro H locs ls kc z h1 h2 h3 h4 h5 h6
  exact lv_dup2_11 hx hb d (by rw [xv_cat]; exact hc) (by rw [xv_cat]; exact hw) (kk H locs ls kc z h1 h2 h3 h4 h5 h6)
theorem xw_pop {X : XCtx} {own : String} {cc : ByteArray} {nL : Nat} {nm : String} {ret : Option FieldType} {fr lo : Nat} (C : XOK X own cc nL nm ret fr lo) {pc : Nat} {L : List (Option Value)} {st : List Value} {h : XH} {n sl : Nat} {v : Value} (d : decode cc pc = .ok (.pop, 1)) (hc : v.category = 1) (kk : XW X (pc + 1) L st h n sl) : XW X pc L (v :: st) h n sl := by
  obtain ⟨⟨p, l, e, R⟩, ⟨s, m, args, below⟩, ⟨meth, c⟩, ⟨D, aT, B⟩, ⟨n0, sl0⟩, ⟨nC, sC⟩, Qx⟩ := X
  obtain ⟨hx, hb, hml, hr, hlk, hown, hnm, hts, hK, hF, hL, hRc, hRs, hB⟩ := C
  intro H locs ls kc z h1 h2 h3 h4 h5 h6
  exact lv_pop hx hb d (by rw [xv_cat]; exact hc) (kk H locs ls kc z h1 h2 h3 h4 h5 h6)
theorem xw_if_eq {X : XCtx} {own : String} {cc : ByteArray} {nL : Nat} {nm : String} {ret : Option FieldType} {fr lo : Nat} (C : XOK X own cc nL nm ret fr lo) {pc : Nat} {L : List (Option Value)} {st : List Value} {h : XH} {n sl : Nat} {x : Int32} {off : Int} {tgt : Nat} (d : decode cc pc = .ok (.ifCond .eq off, 3)) (ht : (pc : Int) + off = (tgt : Int)) (kt : x = 0 → XW X tgt L st h n sl) (kf : ¬ x = 0 → XW X (pc + 3) L st h n sl) : XW X pc L (.int x :: st) h n sl := by
  obtain ⟨⟨p, l, e, R⟩, ⟨s, m, args, below⟩, ⟨meth, c⟩, ⟨D, aT, B⟩, ⟨n0, sl0⟩, ⟨nC, sC⟩, Qx⟩ := X
  obtain ⟨hx, hb, hml, hr, hlk, hown, hnm, hts, hK, hF, hL, hRc, hRs, hB⟩ := C
  intro H locs ls kc z h1 h2 h3 h4 h5 h6
  exact lv_if_eq hx hb d ht (fun q => kt q H locs ls kc z h1 h2 h3 h4 h5 h6) (fun q => kf q H locs ls kc z h1 h2 h3 h4 h5 h6)
theorem xw_icmp_eq {X : XCtx} {own : String} {cc : ByteArray} {nL : Nat} {nm : String} {ret : Option FieldType} {fr lo : Nat} (C : XOK X own cc nL nm ret fr lo) {pc : Nat} {L : List (Option Value)} {st : List Value} {h : XH} {n sl : Nat} {x y : Int32} {off : Int} {tgt : Nat} (d : decode cc pc = .ok (.if_icmp .eq off, 3)) (ht : (pc : Int) + off = (tgt : Int)) (kt : x = y → XW X tgt L st h n sl) (kf : ¬ x = y → XW X (pc + 3) L st h n sl) : XW X pc L (.int y :: .int x :: st) h n sl := by
  obtain ⟨⟨p, l, e, R⟩, ⟨s, m, args, below⟩, ⟨meth, c⟩, ⟨D, aT, B⟩, ⟨n0, sl0⟩, ⟨nC, sC⟩, Qx⟩ := X
  obtain ⟨hx, hb, hml, hr, hlk, hown, hnm, hts, hK, hF, hL, hRc, hRs, hB⟩ := C
  intro H locs ls kc z h1 h2 h3 h4 h5 h6
  exact lv_icmp_eq hx hb d ht (fun q => kt q H locs ls kc z h1 h2 h3 h4 h5 h6) (fun q => kf q H locs ls kc z h1 h2 h3 h4 h5 h6)
theorem xw_if_ne {X : XCtx} {own : String} {cc : ByteArray} {nL : Nat} {nm : String} {ret : Option FieldType} {fr lo : Nat} (C : XOK X own cc nL nm ret fr lo) {pc : Nat} {L : List (Option Value)} {st : List Value} {h : XH} {n sl : Nat} {x : Int32} {off : Int} {tgt : Nat} (d : decode cc pc = .ok (.ifCond .ne off, 3)) (ht : (pc : Int) + off = (tgt : Int)) (kt : ¬ x = 0 → XW X tgt L st h n sl) (kf : x = 0 → XW X (pc + 3) L st h n sl) : XW X pc L (.int x :: st) h n sl := by
  obtain ⟨⟨p, l, e, R⟩, ⟨s, m, args, below⟩, ⟨meth, c⟩, ⟨D, aT, B⟩, ⟨n0, sl0⟩, ⟨nC, sC⟩, Qx⟩ := X
  obtain ⟨hx, hb, hml, hr, hlk, hown, hnm, hts, hK, hF, hL, hRc, hRs, hB⟩ := C
  intro H locs ls kc z h1 h2 h3 h4 h5 h6
  exact lv_if_ne hx hb d ht (fun q => kt q H locs ls kc z h1 h2 h3 h4 h5 h6) (fun q => kf q H locs ls kc z h1 h2 h3 h4 h5 h6)
theorem xw_icmp_ne {X : XCtx} {own : String} {cc : ByteArray} {nL : Nat} {nm : String} {ret : Option FieldType} {fr lo : Nat} (C : XOK X own cc nL nm ret fr lo) {pc : Nat} {L : List (Option Value)} {st : List Value} {h : XH} {n sl : Nat} {x y : Int32} {off : Int} {tgt : Nat} (d : decode cc pc = .ok (.if_icmp .ne off, 3)) (ht : (pc : Int) + off = (tgt : Int)) (kt : ¬ x = y → XW X tgt L st h n sl) (kf : x = y → XW X (pc + 3) L st h n sl) : XW X pc L (.int y :: .int x :: st) h n sl := by
  obtain ⟨⟨p, l, e, R⟩, ⟨s, m, args, below⟩, ⟨meth, c⟩, ⟨D, aT, B⟩, ⟨n0, sl0⟩, ⟨nC, sC⟩, Qx⟩ := X
  obtain ⟨hx, hb, hml, hr, hlk, hown, hnm, hts, hK, hF, hL, hRc, hRs, hB⟩ := C
  intro H locs ls kc z h1 h2 h3 h4 h5 h6
  exact lv_icmp_ne hx hb d ht (fun q => kt q H locs ls kc z h1 h2 h3 h4 h5 h6) (fun q => kf q H locs ls kc z h1 h2 h3 h4 h5 h6)
theorem xw_if_lt {X : XCtx} {own : String} {cc : ByteArray} {nL : Nat} {nm : String} {ret : Option FieldType} {fr lo : Nat} (C : XOK X own cc nL nm ret fr lo) {pc : Nat} {L : List (Option Value)} {st : List Value} {h : XH} {n sl : Nat} {x : Int32} {off : Int} {tgt : Nat} (d : decode cc pc = .ok (.ifCond .lt off, 3)) (ht : (pc : Int) + off = (tgt : Int)) (kt : x < 0 → XW X tgt L st h n sl) (kf : ¬ x < 0 → XW X (pc + 3) L st h n sl) : XW X pc L (.int x :: st) h n sl := by
  obtain ⟨⟨p, l, e, R⟩, ⟨s, m, args, below⟩, ⟨meth, c⟩, ⟨D, aT, B⟩, ⟨n0, sl0⟩, ⟨nC, sC⟩, Qx⟩ := X
  obtain ⟨hx, hb, hml, hr, hlk, hown, hnm, hts, hK, hF, hL, hRc, hRs, hB⟩ := C
  intro H locs ls kc z h1 h2 h3 h4 h5 h6
  exact lv_if_lt hx hb d ht (fun q => kt q H locs ls kc z h1 h2 h3 h4 h5 h6) (fun q => kf q H locs ls kc z h1 h2 h3 h4 h5 h6)
theorem xw_icmp_lt {X : XCtx} {own : String} {cc : ByteArray} {nL : Nat} {nm : String} {ret : Option FieldType} {fr lo : Nat} (C : XOK X own cc nL nm ret fr lo) {pc : Nat} {L : List (Option Value)} {st : List Value} {h : XH} {n sl : Nat} {x y : Int32} {off : Int} {tgt : Nat} (d : decode cc pc = .ok (.if_icmp .lt off, 3)) (ht : (pc : Int) + off = (tgt : Int)) (kt : x < y → XW X tgt L st h n sl) (kf : ¬ x < y → XW X (pc + 3) L st h n sl) : XW X pc L (.int y :: .int x :: st) h n sl := by
  obtain ⟨⟨p, l, e, R⟩, ⟨s, m, args, below⟩, ⟨meth, c⟩, ⟨D, aT, B⟩, ⟨n0, sl0⟩, ⟨nC, sC⟩, Qx⟩ := X
  obtain ⟨hx, hb, hml, hr, hlk, hown, hnm, hts, hK, hF, hL, hRc, hRs, hB⟩ := C
  intro H locs ls kc z h1 h2 h3 h4 h5 h6
  exact lv_icmp_lt hx hb d ht (fun q => kt q H locs ls kc z h1 h2 h3 h4 h5 h6) (fun q => kf q H locs ls kc z h1 h2 h3 h4 h5 h6)
theorem xw_if_ge {X : XCtx} {own : String} {cc : ByteArray} {nL : Nat} {nm : String} {ret : Option FieldType} {fr lo : Nat} (C : XOK X own cc nL nm ret fr lo) {pc : Nat} {L : List (Option Value)} {st : List Value} {h : XH} {n sl : Nat} {x : Int32} {off : Int} {tgt : Nat} (d : decode cc pc = .ok (.ifCond .ge off, 3)) (ht : (pc : Int) + off = (tgt : Int)) (kt : 0 ≤ x → XW X tgt L st h n sl) (kf : ¬ 0 ≤ x → XW X (pc + 3) L st h n sl) : XW X pc L (.int x :: st) h n sl := by
  obtain ⟨⟨p, l, e, R⟩, ⟨s, m, args, below⟩, ⟨meth, c⟩, ⟨D, aT, B⟩, ⟨n0, sl0⟩, ⟨nC, sC⟩, Qx⟩ := X
  obtain ⟨hx, hb, hml, hr, hlk, hown, hnm, hts, hK, hF, hL, hRc, hRs, hB⟩ := C
  intro H locs ls kc z h1 h2 h3 h4 h5 h6
  exact lv_if_ge hx hb d ht (fun q => kt q H locs ls kc z h1 h2 h3 h4 h5 h6) (fun q => kf q H locs ls kc z h1 h2 h3 h4 h5 h6)
theorem xw_icmp_ge {X : XCtx} {own : String} {cc : ByteArray} {nL : Nat} {nm : String} {ret : Option FieldType} {fr lo : Nat} (C : XOK X own cc nL nm ret fr lo) {pc : Nat} {L : List (Option Value)} {st : List Value} {h : XH} {n sl : Nat} {x y : Int32} {off : Int} {tgt : Nat} (d : decode cc pc = .ok (.if_icmp .ge off, 3)) (ht : (pc : Int) + off = (tgt : Int)) (kt : y ≤ x → XW X tgt L st h n sl) (kf : ¬ y ≤ x → XW X (pc + 3) L st h n sl) : XW X pc L (.int y :: .int x :: st) h n sl := by
  obtain ⟨⟨p, l, e, R⟩, ⟨s, m, args, below⟩, ⟨meth, c⟩, ⟨D, aT, B⟩, ⟨n0, sl0⟩, ⟨nC, sC⟩, Qx⟩ := X
  obtain ⟨hx, hb, hml, hr, hlk, hown, hnm, hts, hK, hF, hL, hRc, hRs, hB⟩ := C
  intro H locs ls kc z h1 h2 h3 h4 h5 h6
  exact lv_icmp_ge hx hb d ht (fun q => kt q H locs ls kc z h1 h2 h3 h4 h5 h6) (fun q => kf q H locs ls kc z h1 h2 h3 h4 h5 h6)
theorem xw_if_gt {X : XCtx} {own : String} {cc : ByteArray} {nL : Nat} {nm : String} {ret : Option FieldType} {fr lo : Nat} (C : XOK X own cc nL nm ret fr lo) {pc : Nat} {L : List (Option Value)} {st : List Value} {h : XH} {n sl : Nat} {x : Int32} {off : Int} {tgt : Nat} (d : decode cc pc = .ok (.ifCond .gt off, 3)) (ht : (pc : Int) + off = (tgt : Int)) (kt : 0 < x → XW X tgt L st h n sl) (kf : ¬ 0 < x → XW X (pc + 3) L st h n sl) : XW X pc L (.int x :: st) h n sl := by
  obtain ⟨⟨p, l, e, R⟩, ⟨s, m, args, below⟩, ⟨meth, c⟩, ⟨D, aT, B⟩, ⟨n0, sl0⟩, ⟨nC, sC⟩, Qx⟩ := X
  obtain ⟨hx, hb, hml, hr, hlk, hown, hnm, hts, hK, hF, hL, hRc, hRs, hB⟩ := C
  intro H locs ls kc z h1 h2 h3 h4 h5 h6
  exact lv_if_gt hx hb d ht (fun q => kt q H locs ls kc z h1 h2 h3 h4 h5 h6) (fun q => kf q H locs ls kc z h1 h2 h3 h4 h5 h6)
theorem xw_icmp_gt {X : XCtx} {own : String} {cc : ByteArray} {nL : Nat} {nm : String} {ret : Option FieldType} {fr lo : Nat} (C : XOK X own cc nL nm ret fr lo) {pc : Nat} {L : List (Option Value)} {st : List Value} {h : XH} {n sl : Nat} {x y : Int32} {off : Int} {tgt : Nat} (d : decode cc pc = .ok (.if_icmp .gt off, 3)) (ht : (pc : Int) + off = (tgt : Int)) (kt : y < x → XW X tgt L st h n sl) (kf : ¬ y < x → XW X (pc + 3) L st h n sl) : XW X pc L (.int y :: .int x :: st) h n sl := by
  obtain ⟨⟨p, l, e, R⟩, ⟨s, m, args, below⟩, ⟨meth, c⟩, ⟨D, aT, B⟩, ⟨n0, sl0⟩, ⟨nC, sC⟩, Qx⟩ := X
  obtain ⟨hx, hb, hml, hr, hlk, hown, hnm, hts, hK, hF, hL, hRc, hRs, hB⟩ := C
  intro H locs ls kc z h1 h2 h3 h4 h5 h6
  exact lv_icmp_gt hx hb d ht (fun q => kt q H locs ls kc z h1 h2 h3 h4 h5 h6) (fun q => kf q H locs ls kc z h1 h2 h3 h4 h5 h6)
theorem xw_if_le {X : XCtx} {own : String} {cc : ByteArray} {nL : Nat} {nm : String} {ret : Option FieldType} {fr lo : Nat} (C : XOK X own cc nL nm ret fr lo) {pc : Nat} {L : List (Option Value)} {st : List Value} {h : XH} {n sl : Nat} {x : Int32} {off : Int} {tgt : Nat} (d : decode cc pc = .ok (.ifCond .le off, 3)) (ht : (pc : Int) + off = (tgt : Int)) (kt : x ≤ 0 → XW X tgt L st h n sl) (kf : ¬ x ≤ 0 → XW X (pc + 3) L st h n sl) : XW X pc L (.int x :: st) h n sl := by
  obtain ⟨⟨p, l, e, R⟩, ⟨s, m, args, below⟩, ⟨meth, c⟩, ⟨D, aT, B⟩, ⟨n0, sl0⟩, ⟨nC, sC⟩, Qx⟩ := X
  obtain ⟨hx, hb, hml, hr, hlk, hown, hnm, hts, hK, hF, hL, hRc, hRs, hB⟩ := C
  intro H locs ls kc z h1 h2 h3 h4 h5 h6
  exact lv_if_le hx hb d ht (fun q => kt q H locs ls kc z h1 h2 h3 h4 h5 h6) (fun q => kf q H locs ls kc z h1 h2 h3 h4 h5 h6)
theorem xw_icmp_le {X : XCtx} {own : String} {cc : ByteArray} {nL : Nat} {nm : String} {ret : Option FieldType} {fr lo : Nat} (C : XOK X own cc nL nm ret fr lo) {pc : Nat} {L : List (Option Value)} {st : List Value} {h : XH} {n sl : Nat} {x y : Int32} {off : Int} {tgt : Nat} (d : decode cc pc = .ok (.if_icmp .le off, 3)) (ht : (pc : Int) + off = (tgt : Int)) (kt : x ≤ y → XW X tgt L st h n sl) (kf : ¬ x ≤ y → XW X (pc + 3) L st h n sl) : XW X pc L (.int y :: .int x :: st) h n sl := by
  obtain ⟨⟨p, l, e, R⟩, ⟨s, m, args, below⟩, ⟨meth, c⟩, ⟨D, aT, B⟩, ⟨n0, sl0⟩, ⟨nC, sC⟩, Qx⟩ := X
  obtain ⟨hx, hb, hml, hr, hlk, hown, hnm, hts, hK, hF, hL, hRc, hRs, hB⟩ := C
  intro H locs ls kc z h1 h2 h3 h4 h5 h6
  exact lv_icmp_le hx hb d ht (fun q => kt q H locs ls kc z h1 h2 h3 h4 h5 h6) (fun q => kf q H locs ls kc z h1 h2 h3 h4 h5 h6)
theorem xw_goto {X : XCtx} {own : String} {cc : ByteArray} {nL : Nat} {nm : String} {ret : Option FieldType} {fr lo : Nat} (C : XOK X own cc nL nm ret fr lo) {pc : Nat} {L : List (Option Value)} {st : List Value} {h : XH} {n sl : Nat} {off : Int} {tgt : Nat} (d : decode cc pc = .ok (.goto off, 3)) (ht : (pc : Int) + off = (tgt : Int)) (kk : XW X tgt L st h n sl) : XW X pc L st h n sl := by
  obtain ⟨⟨p, l, e, R⟩, ⟨s, m, args, below⟩, ⟨meth, c⟩, ⟨D, aT, B⟩, ⟨n0, sl0⟩, ⟨nC, sC⟩, Qx⟩ := X
  obtain ⟨hx, hb, hml, hr, hlk, hown, hnm, hts, hK, hF, hL, hRc, hRs, hB⟩ := C
  intro H locs ls kc z h1 h2 h3 h4 h5 h6
  exact lv_goto hx hb d ht (kk H locs ls kc z h1 h2 h3 h4 h5 h6)
theorem xw_ifnull {X : XCtx} {own : String} {cc : ByteArray} {nL : Nat} {nm : String} {ret : Option FieldType} {fr lo : Nat} (C : XOK X own cc nL nm ret fr lo) {pc : Nat} {L : List (Option Value)} {st : List Value} {h : XH} {n sl : Nat} {x : Option Nat} {off : Int} {tgt : Nat} (d : decode cc pc = .ok (.ifnull off, 3)) (ht : (pc : Int) + off = (tgt : Int)) (kt : x = none → XW X tgt L st h n sl) (kf : ∀ a, x = some a → XW X (pc + 3) L st h n sl) : XW X pc L (va_rf x :: st) h n sl := by
  obtain ⟨⟨p, l, e, R⟩, ⟨s, m, args, below⟩, ⟨meth, c⟩, ⟨D, aT, B⟩, ⟨n0, sl0⟩, ⟨nC, sC⟩, Qx⟩ := X
  obtain ⟨hx, hb, hml, hr, hlk, hown, hnm, hts, hK, hF, hL, hRc, hRs, hB⟩ := C
  intro H locs ls kc z h1 h2 h3 h4 h5 h6
  cases x with
  | none => exact lv_ifnullN hx hb d ht (kt rfl H locs ls kc z h1 h2 h3 h4 h5 h6)
  | some a => exact lv_ifnull hx hb d (kf a rfl H locs ls kc z h1 h2 h3 h4 h5 h6)
theorem xw_ifnonnull {X : XCtx} {own : String} {cc : ByteArray} {nL : Nat} {nm : String} {ret : Option FieldType} {fr lo : Nat} (C : XOK X own cc nL nm ret fr lo) {pc : Nat} {L : List (Option Value)} {st : List Value} {h : XH} {n sl : Nat} {x : Option Nat} {off : Int} {tgt : Nat} (d : decode cc pc = .ok (.ifnonnull off, 3)) (ht : (pc : Int) + off = (tgt : Int)) (kt : ∀ a, x = some a → XW X tgt L st h n sl) (kf : x = none → XW X (pc + 3) L st h n sl) : XW X pc L (va_rf x :: st) h n sl := by
  obtain ⟨⟨p, l, e, R⟩, ⟨s, m, args, below⟩, ⟨meth, c⟩, ⟨D, aT, B⟩, ⟨n0, sl0⟩, ⟨nC, sC⟩, Qx⟩ := X
  obtain ⟨hx, hb, hml, hr, hlk, hown, hnm, hts, hK, hF, hL, hRc, hRs, hB⟩ := C
  intro H locs ls kc z h1 h2 h3 h4 h5 h6
  cases x with
  | none => exact lv_ifnonnullN hx hb d (kf rfl H locs ls kc z h1 h2 h3 h4 h5 h6)
  | some a => exact lv_ifnonnull hx hb d ht (kt a rfl H locs ls kc z h1 h2 h3 h4 h5 h6)
theorem xw_tabIn {X : XCtx} {own : String} {cc : ByteArray} {nL : Nat} {nm : String} {ret : Option FieldType} {fr lo : Nat} (C : XOK X own cc nL nm ret fr lo) {pc : Nat} {L : List (Option Value)} {st : List Value} {h : XH} {n sl : Nat} {dflt lo' hi' : Int} {offs : Array Int} {len : Nat} {x v : Int32} {off : Int} {tgt : Nat} (d : decode cc pc = .ok (.tableswitch dflt lo' hi' offs, len)) (hv : x = v) (q1 : ¬ v.toInt < lo') (q2 : ¬ hi' < v.toInt) (ho : offs[(v.toInt - lo').toNat]? = some off) (ht : (pc : Int) + off = (tgt : Int)) (kk : XW X tgt L st h n sl) : XW X pc L (.int x :: st) h n sl := by
  obtain ⟨⟨p, l, e, R⟩, ⟨s, m, args, below⟩, ⟨meth, c⟩, ⟨D, aT, B⟩, ⟨n0, sl0⟩, ⟨nC, sC⟩, Qx⟩ := X
  obtain ⟨hx, hb, hml, hr, hlk, hown, hnm, hts, hK, hF, hL, hRc, hRs, hB⟩ := C
  intro H locs ls kc z h1 h2 h3 h4 h5 h6
  subst hv
  exact lv_tableIn hx hb d q1 q2 ho ht (kk H locs ls kc z h1 h2 h3 h4 h5 h6)
theorem xw_tabOut {X : XCtx} {own : String} {cc : ByteArray} {nL : Nat} {nm : String} {ret : Option FieldType} {fr lo : Nat} (C : XOK X own cc nL nm ret fr lo) {pc : Nat} {L : List (Option Value)} {st : List Value} {h : XH} {n sl : Nat} {dflt lo' hi' : Int} {offs : Array Int} {len : Nat} {x : Int32} {tgt : Nat} (d : decode cc pc = .ok (.tableswitch dflt lo' hi' offs, len)) (q : x.toInt < lo' ∨ hi' < x.toInt) (ht : (pc : Int) + dflt = (tgt : Int)) (kk : XW X tgt L st h n sl) : XW X pc L (.int x :: st) h n sl := by
  obtain ⟨⟨p, l, e, R⟩, ⟨s, m, args, below⟩, ⟨meth, c⟩, ⟨D, aT, B⟩, ⟨n0, sl0⟩, ⟨nC, sC⟩, Qx⟩ := X
  obtain ⟨hx, hb, hml, hr, hlk, hown, hnm, hts, hK, hF, hL, hRc, hRs, hB⟩ := C
  intro H locs ls kc z h1 h2 h3 h4 h5 h6
  exact lv_tableOut hx hb d q ht (kk H locs ls kc z h1 h2 h3 h4 h5 h6)
theorem xw_look {X : XCtx} {own : String} {cc : ByteArray} {nL : Nat} {nm : String} {ret : Option FieldType} {fr lo : Nat} (C : XOK X own cc nL nm ret fr lo) {pc : Nat} {L : List (Option Value)} {st : List Value} {h : XH} {n sl : Nat} {dflt : Int} {ps : Array (Int × Int)} {len : Nat} {x : Int32} {off : Int} {tgt : Nat} (d : decode cc pc = .ok (.lookupswitch dflt ps, len)) (hp : (ps.toList.zip (ps.toList.drop 1)).all (fun (a, next) => a.1 < next.1) = true) (ho : Op.lookupswitch.offset ps.toList dflt x.toInt = off) (ht : (pc : Int) + off = (tgt : Int)) (kk : XW X tgt L st h n sl) : XW X pc L (.int x :: st) h n sl := by
  obtain ⟨⟨p, l, e, R⟩, ⟨s, m, args, below⟩, ⟨meth, c⟩, ⟨D, aT, B⟩, ⟨n0, sl0⟩, ⟨nC, sC⟩, Qx⟩ := X
  obtain ⟨hx, hb, hml, hr, hlk, hown, hnm, hts, hK, hF, hL, hRc, hRs, hB⟩ := C
  intro H locs ls kc z h1 h2 h3 h4 h5 h6
  exact lv_lookup hx hb d hp ho ht (kk H locs ls kc z h1 h2 h3 h4 h5 h6)
theorem xw_sub {X : XCtx} {pc : Nat} {L : List (Option Value)} (L' : List (Option Value)) {st : List Value} {h : XH} {n sl : Nat} (hs : xsub L' L) (kk : XW X pc L' st h n sl) : XW X pc L st h n sl := by
  obtain ⟨⟨p, l, e, R⟩, ⟨s, m, args, below⟩, ⟨meth, c⟩, ⟨D, aT, B⟩, ⟨n0, sl0⟩, ⟨nC, sC⟩, Qx⟩ := X
  intro H locs ls kc z h1 h2 h3 h4 h5 h6
  exact kk H locs ls kc z (h1.sub (xsub_at L' L hs)) h2 h3 h4 h5 h6
end
section
/-! readers and writers of the abstract heap -/
def xgf (h : XH) (a ci k : Nat) : Option Value := match h a with
  | some (.inl (c, fs)) => if c = ci then fs[k]? else none
  | _ => none
def xgI (h : XH) (a ci k : Nat) : Option Int32 := match xgf h a ci k with
  | some (.int v) => some v
  | _ => none
def xgJ (h : XH) (a ci k : Nat) : Option Int64 := match xgf h a ci k with
  | some (.long v) => some v
  | _ => none
def xgR (h : XH) (a ci k : Nat) : Option Nat := match xgf h a ci k with
  | some (.ref v) => some v
  | _ => none
def xpf (h : XH) (a ci k : Nat) (v : Value) : Option XH := match h a with
  | some (.inl (c, fs)) => if c = ci ∧ k < fs.length then some (xup h a (.inl (c, fs.set k v))) else none
  | _ => none
def xco (h : XH) (a ci : Nat) : Option Unit := match h a with
  | some (.inl (c, _)) => if c = ci then some () else none
  | _ => none
def xaI (h : XH) (a t : Nat) (i : Int32) : Option Int32 := match h a with
  | some (.inr (t', n, .inl f)) => if t' = t ∧ ¬ (i < 0 ∨ n ≤ i.toNatClampNeg) then some (f i.toNatClampNeg) else none
  | _ => none
def xsI (h : XH) (a t : Nat) (i v : Int32) : Option XH := match h a with
  | some (.inr (t', n, .inl f)) => if t' = t ∧ ¬ (i < 0 ∨ n ≤ i.toNatClampNeg) then some (xup h a (.inr (t', n, .inl (upd f i.toNatClampNeg v)))) else none
  | _ => none
def xaQ (h : XH) (a : Nat) (i : Int32) : Option (Option Nat) := match h a with
  | some (.inr (t', n, .inr (.inr (.inr (.inr f))))) => if t' = 2 ∧ ¬ (i < 0 ∨ n ≤ i.toNatClampNeg) then some (f i.toNatClampNeg) else none
  | _ => none
def xsQ (h : XH) (a : Nat) (i : Int32) (v : Nat) : Option XH := match h a, h v with
  | some (.inr (t', n, .inr (.inr (.inr (.inr f))))), some (.inl (c, _)) => if t' = 2 ∧ c = 5 ∧ ¬ (i < 0 ∨ n ≤ i.toNatClampNeg) then some (xup h a (.inr (t', n, .inr (.inr (.inr (.inr (va_up f i.toNatClampNeg (some v)))))))) else none
  | _, _ => none
def xln (h : XH) (a : Nat) : Option Int32 := match h a with
  | some (.inr (t, n, x)) => if t < 3 then some (Int32.ofNat n) else none
  | _ => none
theorem xgf_spec {h : XH} {a ci k : Nat} {v : Value} (q : xgf h a ci k = some v) : ∃ fs, h a = some (.inl (ci, fs)) ∧ fs[k]? = some v := by
  unfold xgf at q
  split at q
  · rename_i c fs hh
    by_cases hc : c = ci
    · rw [if_pos hc] at q; subst hc; exact ⟨fs, hh, q⟩
    · rw [if_neg hc] at q; cases q
  · cases q
theorem xgI_spec {h : XH} {a ci k : Nat} {v : Int32} (q : xgI h a ci k = some v) : ∃ fs, h a = some (.inl (ci, fs)) ∧ fs[k]? = some (.int v) := by
  unfold xgI at q
  split at q
  · rename_i w hh; cases q; exact xgf_spec hh
  · cases q
theorem xgJ_spec {h : XH} {a ci k : Nat} {v : Int64} (q : xgJ h a ci k = some v) : ∃ fs, h a = some (.inl (ci, fs)) ∧ fs[k]? = some (.long v) := by
  unfold xgJ at q
  split at q
  · rename_i w hh; cases q; exact xgf_spec hh
  · cases q
theorem xgR_spec {h : XH} {a ci k : Nat} {v : Nat} (q : xgR h a ci k = some v) : ∃ fs, h a = some (.inl (ci, fs)) ∧ fs[k]? = some (.ref v) := by
  unfold xgR at q
  split at q
  · rename_i w hh; cases q; exact xgf_spec hh
  · cases q
theorem xpf_spec {h h1 : XH} {a ci k : Nat} {v : Value} (q : xpf h a ci k v = some h1) : ∃ fs, h a = some (.inl (ci, fs)) ∧ k < fs.length ∧ h1 = xup h a (.inl (ci, fs.set k v)) := by
  unfold xpf at q
  split at q
  · rename_i c fs hh
    by_cases hc : c = ci ∧ k < fs.length
    · rw [if_pos hc] at q
      obtain ⟨rfl, hk⟩ := hc
      exact ⟨fs, hh, hk, (Option.some.inj q).symm⟩
    · rw [if_neg hc] at q; cases q
  · cases q
theorem xco_spec {h : XH} {a ci : Nat} {u : Unit} (q : xco h a ci = some u) : ∃ fs, h a = some (.inl (ci, fs)) := by
  unfold xco at q
  split at q
  · rename_i c fs hh
    by_cases hc : c = ci
    · subst hc; exact ⟨fs, hh⟩
    · rw [if_neg hc] at q; cases q
  · cases q
theorem xaI_spec {h : XH} {a t : Nat} {i v : Int32} (q : xaI h a t i = some v) : ∃ n f, h a = some (.inr (t, n, .inl f)) ∧ vp_in i n ∧ v = f i.toNatClampNeg := by
  unfold xaI at q
  split at q
  · rename_i t' n f hh
    by_cases hc : t' = t ∧ ¬ (i < 0 ∨ n ≤ i.toNatClampNeg)
    · rw [if_pos hc] at q
      obtain ⟨rfl, hk⟩ := hc
      exact ⟨n, f, hh, hk, (Option.some.inj q).symm⟩
    · rw [if_neg hc] at q; cases q
  · cases q
theorem xsI_spec {h h1 : XH} {a t : Nat} {i v : Int32} (q : xsI h a t i v = some h1) : ∃ n f, h a = some (.inr (t, n, .inl f)) ∧ vp_in i n ∧ h1 = xup h a (.inr (t, n, .inl (upd f i.toNatClampNeg v))) := by
  unfold xsI at q
  split at q
  · rename_i t' n f hh
    by_cases hc : t' = t ∧ ¬ (i < 0 ∨ n ≤ i.toNatClampNeg)
    · rw [if_pos hc] at q
      obtain ⟨rfl, hk⟩ := hc
      exact ⟨n, f, hh, hk, (Option.some.inj q).symm⟩
    · rw [if_neg hc] at q; cases q
  · cases q
theorem xaQ_spec {h : XH} {a : Nat} {i : Int32} {v : Option Nat} (q : xaQ h a i = some v) : ∃ n f, h a = some (.inr (2, n, .inr (.inr (.inr (.inr f))))) ∧ vp_in i n ∧ v = f i.toNatClampNeg := by
  unfold xaQ at q
  split at q
  · rename_i t' n f hh
    by_cases hc : t' = 2 ∧ ¬ (i < 0 ∨ n ≤ i.toNatClampNeg)
    · rw [if_pos hc] at q
      obtain ⟨rfl, hk⟩ := hc
      exact ⟨n, f, hh, hk, (Option.some.inj q).symm⟩
    · rw [if_neg hc] at q; cases q
  · cases q
theorem xsQ_spec {h h1 : XH} {a v : Nat} {i : Int32} (q : xsQ h a i v = some h1) : ∃ n f fs, h a = some (.inr (2, n, .inr (.inr (.inr (.inr f))))) ∧ h v = some (.inl (5, fs)) ∧ vp_in i n ∧ h1 = xup h a (.inr (2, n, .inr (.inr (.inr (.inr (va_up f i.toNatClampNeg (some v))))))) := by
  unfold xsQ at q
  split at q
  · rename_i t' n f c fs hh hv
    by_cases hc : t' = 2 ∧ c = 5 ∧ ¬ (i < 0 ∨ n ≤ i.toNatClampNeg)
    · rw [if_pos hc] at q
      obtain ⟨rfl, rfl, hk⟩ := hc
      exact ⟨n, f, fs, hh, hv, hk, (Option.some.inj q).symm⟩
    · rw [if_neg hc] at q; cases q
  · cases q
theorem xln_spec {h : XH} {a : Nat} {v : Int32} (q : xln h a = some v) : ∃ t n x, h a = some (.inr (t, n, x)) ∧ t < 3 ∧ v = Int32.ofNat n := by
  unfold xln at q
  split at q
  · rename_i t n x hh
    by_cases hc : t < 3
    · rw [if_pos hc] at q; exact ⟨t, n, x, hh, hc, (Option.some.inj q).symm⟩
    · rw [if_neg hc] at q; cases q
  · cases q
/-- a field by its pool index: which class of the worlds, which place, which type, final or not -/
def XF (own : String) (index ci k : Nat) (ft : FieldType) (fin : Bool) : Prop := ∃ (C : String) (T : u_T) (N : Nat) (ty : Nat → FieldType), vwCl[ci]? = some (C, T, N) ∧ k < N ∧ (∀ w ∈ u_ws C T N, w ∈ tblG) ∧ (∀ j, j < N → parseFieldDescriptor (T j).2.2.1 = some (ty j)) ∧ (∀ a, a < N → ∀ b, b < N → a ≠ b → (T a).2.1 ≠ (T b).2.1) ∧ (T k).1 = C ∧ ty k = ft ∧ (T k).2.2.2 = fin ∧ Cond.fieldLink own index C (T k).2.1 (T k).2.2.1 ∈ tblG
theorem xv_map_get {B : Nat} {fs : List Value} {k : Nat} {v : Value} (h : fs[k]? = some v) : (fs.map (xv B))[k]? = some (xv B v) := by rw [List.getElem?_map, h]; rfl

theorem xw_getf {X : XCtx} {own : String} {cc : ByteArray} {nL : Nat} {nm : String} {ret : Option FieldType} {fr lo : Nat} (C : XOK X own cc nL nm ret fr lo) {pc : Nat} {L : List (Option Value)} {st : List Value} {h : XH} {n sl : Nat} {index ci k a : Nat} {ft : FieldType} {fin : Bool} {v : Value} (d : decode cc pc = .ok (.getfield index, 3)) (hf : XF own index ci k ft fin) (he : ∃ fs, h a = some (.inl (ci, fs)) ∧ fs[k]? = some v) (kk : XW X (pc + 3) L (v :: st) h n sl) : XW X pc L (.ref a :: st) h n sl := by
  obtain ⟨⟨p, l, e, R⟩, ⟨s, m, args, below⟩, ⟨meth, c⟩, ⟨D, aT, B⟩, ⟨n0, sl0⟩, ⟨nC, sC⟩, Qx⟩ := X
  obtain ⟨hx, hb, hml, hr, hlk, hown, hnm, hts, hK, hF, hL, hRc, hRs, hB⟩ := C
  intro H locs ls kc z h1 h2 h3 h4 h5 h6
  obtain ⟨Cn, T, N, ty, g1, g2, g3, g4, g5, g6, g7, g8, g9⟩ := hf
  obtain ⟨fs, he, hv⟩ := he
  exact va_get (Ts := tblG) (ref := Cn) hx hb hts g3 hown hK.1 (h2.one he) 0 rfl g1 k g2 (hts _ g9) (fun x q => by rw [← g6]; exact q) (xv_map_get hv) d (kk H locs ls kc z h1 h2 h3 h4 h5 h6)
theorem xw_getI {X : XCtx} {own : String} {cc : ByteArray} {nL : Nat} {nm : String} {ret : Option FieldType} {fr lo : Nat} (C : XOK X own cc nL nm ret fr lo) {pc : Nat} {L : List (Option Value)} {st : List Value} {h : XH} {n sl : Nat} {index ci k a : Nat} {ft : FieldType} {fin : Bool} {v : Int32} (d : decode cc pc = .ok (.getfield index, 3)) (hf : XF own index ci k ft fin) (he : xgI h a ci k = some v) (kk : XW X (pc + 3) L (.int v :: st) h n sl) : XW X pc L (.ref a :: st) h n sl := xw_getf C d hf (xgI_spec he) kk
theorem xw_getJ {X : XCtx} {own : String} {cc : ByteArray} {nL : Nat} {nm : String} {ret : Option FieldType} {fr lo : Nat} (C : XOK X own cc nL nm ret fr lo) {pc : Nat} {L : List (Option Value)} {st : List Value} {h : XH} {n sl : Nat} {index ci k a : Nat} {ft : FieldType} {fin : Bool} {v : Int64} (d : decode cc pc = .ok (.getfield index, 3)) (hf : XF own index ci k ft fin) (he : xgJ h a ci k = some v) (kk : XW X (pc + 3) L (.long v :: st) h n sl) : XW X pc L (.ref a :: st) h n sl := xw_getf C d hf (xgJ_spec he) kk
theorem xw_getR {X : XCtx} {own : String} {cc : ByteArray} {nL : Nat} {nm : String} {ret : Option FieldType} {fr lo : Nat} (C : XOK X own cc nL nm ret fr lo) {pc : Nat} {L : List (Option Value)} {st : List Value} {h : XH} {n sl : Nat} {index ci k a : Nat} {ft : FieldType} {fin : Bool} {v : Nat} (d : decode cc pc = .ok (.getfield index, 3)) (hf : XF own index ci k ft fin) (he : xgR h a ci k = some v) (kk : XW X (pc + 3) L (.ref v :: st) h n sl) : XW X pc L (.ref a :: st) h n sl := xw_getf C d hf (xgR_spec he) kk
theorem xw_put {X : XCtx} {own : String} {cc : ByteArray} {nL : Nat} {nm : String} {ret : Option FieldType} {fr lo : Nat} (C : XOK X own cc nL nm ret fr lo) {pc : Nat} {L : List (Option Value)} {st : List Value} {h : XH} {n sl : Nat} {index ci k a : Nat} {ft : FieldType} {v : Value} {h1' : XH} (d : decode cc pc = .ok (.putfield index, 3)) (hf : XF own index ci k ft false) (hp : xpf h a ci k v = some h1') (hn : ∀ B, narrow ft (xv B v) = xv B v) (hfit : ∀ B, fits ft (xv B v) = true) (kk : XW X (pc + 3) L st h1' n sl) : XW X pc L (v :: .ref a :: st) h n sl := by
  obtain ⟨⟨p, l, e, R⟩, ⟨s, m, args, below⟩, ⟨meth, c⟩, ⟨D, aT, B⟩, ⟨n0, sl0⟩, ⟨nC, sC⟩, Qx⟩ := X
  obtain ⟨hx, hb, hml, hr, hlk, hown, hnm, hts, hK, hF, hL, hRc, hRs, hB⟩ := C
  intro H locs ls kc z h1 h2 h3 h4 h5 h6
  obtain ⟨Cn, T, N, ty, g1, g2, g3, g4, g5, g6, g7, g8, g9⟩ := hf
  obtain ⟨fs, he, hl, rfl⟩ := xpf_spec hp
  have hap := va_apart (own := own) hts g3 ty g4 g5 hK.1 g1
  obtain ⟨rr, w1, cell, q1, q2, q3, q4⟩ := h2 a _ he
  have hrr : rr = (Cn, T, N) := Option.some.inj (w1.symm.trans g1)
  subst hrr
  obtain ⟨hS, hfc, kC, hkC, hkind⟩ := hK.1.1 ci _ g1
  obtain ⟨cf, kf, fi, f, hi, hsl⟩ := hS k g2
  have hlay := hts _ (g3 _ (u_in_lay g2))
  unfold u_lay at hlay
  rw [if_neg (by rw [g8]; decide)] at hlay
  have hst := (u_facts hfc hkC (u_lays hts g3 g2) hi).1
  have h6' := u_store hfc hkC hkind hlay hi (g4 k g2) (by rw [g7]; exact hn B) (by rw [g7]; exact hfit B)
  refine W.putK hx hb (f := f) ⟨hown, hts _ g9, ⟨_, _, _, by rw [← g6]; exact hi⟩, hst⟩ (by rw [q2]; exact h6') q1 q3 (by rw [hsl]; exact k2_hasslot (q4 k g2)) rfl rfl d fun H' e1 e2 e3 => ?_
  rw [hsl] at e1 ⊢
  refine kk H' _ ls kc z h1 (h2.put ?_ e3) (e2.trans h3) (h4.put e2 e3 (Nat.le_add_right B a)) h5 h6
  refine ⟨_, g1, t_OB.to (V := updV (vp_V (fs.map (xv B))) k (xv B v)) ⟨_, e1, q2, q3, t_set q4 hap g2 (xv B v)⟩ (fun j _ => ?_)⟩
  rw [vp_updV_set (by rw [List.length_map]; exact hl)]
  rw [List.map_set]
theorem xw_putF {X : XCtx} {own : String} {cc : ByteArray} {nL : Nat} {nm : String} {ret : Option FieldType} {fr lo : Nat} (C : XOK X own cc nL nm ret fr lo) {pc : Nat} {L : List (Option Value)} {st : List Value} {h : XH} {n sl : Nat} {index ci k a : Nat} {ft : FieldType} {v : Value} {h1' : XH} (d : decode cc pc = .ok (.putfield index, 3)) (hf : XF own index ci k ft true) (hp : xpf h a ci k v = some h1') (hin2 : nm = "<init>") (hdecl : (vwCl[ci]?).map (fun q => q.1) = some own) (hn : ∀ B, narrow ft (xv B v) = xv B v) (hfit : ∀ B, fits ft (xv B v) = true) (kk : XW X (pc + 3) L st h1' n sl) : XW X pc L (v :: .ref a :: st) h n sl := by
  obtain ⟨⟨p, l, e, R⟩, ⟨s, m, args, below⟩, ⟨meth, c⟩, ⟨D, aT, B⟩, ⟨n0, sl0⟩, ⟨nC, sC⟩, Qx⟩ := X
  obtain ⟨hx, hb, hml, hr, hlk, hown, hnm, hts, hK, hF, hL, hRc, hRs, hB⟩ := C
  intro H locs ls kc z h1 h2 h3 h4 h5 h6
  obtain ⟨Cn, T, N, ty, g1, g2, g3, g4, g5, g6, g7, g8, g9⟩ := hf
  obtain ⟨fs, he, hl, rfl⟩ := xpf_spec hp
  have hap := va_apart (own := own) hts g3 ty g4 g5 hK.1 g1
  obtain ⟨rr, w1, cell, q1, q2, q3, q4⟩ := h2 a _ he
  have hrr : rr = (Cn, T, N) := Option.some.inj (w1.symm.trans g1)
  subst hrr
  obtain ⟨hS, hfc, kC, hkC, hkind⟩ := hK.1.1 ci _ g1
  obtain ⟨cf, kf, fi, f, hi, hsl⟩ := hS k g2
  have hlay := hts _ (g3 _ (u_in_lay g2))
  unfold u_lay at hlay
  rw [if_pos g8] at hlay
  have hst := (u_facts hfc hkC (u_lays hts g3 g2) hi).1
  have hCo : Cn = own := by rw [g1] at hdecl; exact Option.some.inj hdecl
  have hcf : m.cls = cf := by
    obtain ⟨_, _, c', _, _, _, -, -, hf', -, -, -, hown2, -⟩ := Cond.laysFinal_spec hlay
    have e1 : c' = cf := by have := hi.symm.trans hf'; simp at this; exact this.1.symm
    rw [g6, hCo] at hown2
    rw [← e1]; exact Option.some.inj (hown.symm.trans hown2)
  have h6' := u_fits hfc hkC hkind (Or.inr hlay) hi (g4 k g2) (by rw [g7]; exact hn B) (by rw [g7]; exact hfit B)
  refine W.putFinK hx hb hown (hts _ g9) (by rw [← g6]; exact hi) hst hcf (hnm.trans hin2) (by rw [q2]; exact h6') q1 q3 (by rw [hsl]; exact k2_hasslot (q4 k g2)) rfl rfl d fun H' e1 e2 e3 => ?_
  rw [hsl] at e1 ⊢
  refine kk H' _ ls kc z h1 (h2.put ?_ e3) (e2.trans h3) (h4.put e2 e3 (Nat.le_add_right B a)) h5 h6
  refine ⟨_, g1, t_OB.to (V := updV (vp_V (fs.map (xv B))) k (xv B v)) ⟨_, e1, q2, q3, t_set q4 hap g2 (xv B v)⟩ (fun j _ => ?_)⟩
  rw [vp_updV_set (by rw [List.length_map]; exact hl)]
  rw [List.map_set]
theorem xw_iaload {X : XCtx} {own : String} {cc : ByteArray} {nL : Nat} {nm : String} {ret : Option FieldType} {fr lo : Nat} (C : XOK X own cc nL nm ret fr lo) {pc : Nat} {L : List (Option Value)} {st : List Value} {h : XH} {n sl : Nat} {a : Nat} {i v : Int32} (d : decode cc pc = .ok (.iaload, 1)) (hq0 : xaI h a 0 i = some v) (kk : XW X (pc + 1) L (.int v :: st) h n sl) : XW X pc L (.int i :: .ref a :: st) h n sl := by
  obtain ⟨⟨p, l, e, R⟩, ⟨s, m, args, below⟩, ⟨meth, c⟩, ⟨D, aT, B⟩, ⟨n0, sl0⟩, ⟨nC, sC⟩, Qx⟩ := X
  obtain ⟨hx, hb, hml, hr, hlk, hown, hnm, hts, hK, hF, hL, hRc, hRs, hB⟩ := C
  intro H locs ls kc z h1 h2 h3 h4 h5 h6
  obtain ⟨N, f, he, hi, rfl⟩ := xaI_spec hq0
  exact va_iald hx hb hK.1 (h2.one he) 0 0 rfl rfl hi d (kk H locs ls kc z h1 h2 h3 h4 h5 h6)
theorem xw_zaload {X : XCtx} {own : String} {cc : ByteArray} {nL : Nat} {nm : String} {ret : Option FieldType} {fr lo : Nat} (C : XOK X own cc nL nm ret fr lo) {pc : Nat} {L : List (Option Value)} {st : List Value} {h : XH} {n sl : Nat} {a : Nat} {i v : Int32} (d : decode cc pc = .ok (.baload, 1)) (hq0 : xaI h a 1 i = some v) (kk : XW X (pc + 1) L (.int v :: st) h n sl) : XW X pc L (.int i :: .ref a :: st) h n sl := by
  obtain ⟨⟨p, l, e, R⟩, ⟨s, m, args, below⟩, ⟨meth, c⟩, ⟨D, aT, B⟩, ⟨n0, sl0⟩, ⟨nC, sC⟩, Qx⟩ := X
  obtain ⟨hx, hb, hml, hr, hlk, hown, hnm, hts, hK, hF, hL, hRc, hRs, hB⟩ := C
  intro H locs ls kc z h1 h2 h3 h4 h5 h6
  obtain ⟨N, f, he, hi, rfl⟩ := xaI_spec hq0
  exact va_zald hx hb hK.1 (h2.one he) 0 1 rfl rfl hi d (kk H locs ls kc z h1 h2 h3 h4 h5 h6)
theorem xw_iastore {X : XCtx} {own : String} {cc : ByteArray} {nL : Nat} {nm : String} {ret : Option FieldType} {fr lo : Nat} (C : XOK X own cc nL nm ret fr lo) {pc : Nat} {L : List (Option Value)} {st : List Value} {h : XH} {n sl : Nat} {a : Nat} {i v : Int32} {h1' : XH} (d : decode cc pc = .ok (.iastore, 1)) (hq0 : xsI h a 0 i v = some h1') (kk : XW X (pc + 1) L st h1' n sl) : XW X pc L (.int v :: .int i :: .ref a :: st) h n sl := by
  obtain ⟨⟨p, l, e, R⟩, ⟨s, m, args, below⟩, ⟨meth, c⟩, ⟨D, aT, B⟩, ⟨n0, sl0⟩, ⟨nC, sC⟩, Qx⟩ := X
  obtain ⟨hx, hb, hml, hr, hlk, hown, hnm, hts, hK, hF, hL, hRc, hRs, hB⟩ := C
  intro H locs ls kc z h1 h2 h3 h4 h5 h6
  obtain ⟨N, f, he, hi, rfl⟩ := xsI_spec hq0
  refine W.iast hx hb (h2 a _ he) ((hK.1.2 0 _ rfl).1 N (fun j => .int (f j))) (fun q => by cases q) (by show ¬ (i < 0 ∨ (arrV _ _ _).slots.size ≤ _); rw [arrV_size]; exact hi) rfl rfl d fun H1 e1 e2 e3 => ?_
  refine kk H1 _ ls kc z h1 (h2.put ?_ e3) (e2.trans h3) (h4.put e2 e3 (Nat.le_add_right B a)) h5 h6
  show H1[B + a]? = some (vp_cell _ _)
  rw [e1]
  simp only [xva]
  rw [vp_cell_i, vp_cell_i, arrV_store]
  congr 2
  funext q
  by_cases hq : q = i.toNatClampNeg
  · subst hq
    simp [updV, upd, vp_nar]
    try rfl
  · simp [updV, upd, hq]
theorem xw_zastore {X : XCtx} {own : String} {cc : ByteArray} {nL : Nat} {nm : String} {ret : Option FieldType} {fr lo : Nat} (C : XOK X own cc nL nm ret fr lo) {pc : Nat} {L : List (Option Value)} {st : List Value} {h : XH} {n sl : Nat} {a : Nat} {i v : Int32} {h1' : XH} (d : decode cc pc = .ok (.bastore, 1)) (hq0 : xsI h a 1 i (vp_nar .boolean v) = some h1') (kk : XW X (pc + 1) L st h1' n sl) : XW X pc L (.int v :: .int i :: .ref a :: st) h n sl := by
  obtain ⟨⟨p, l, e, R⟩, ⟨s, m, args, below⟩, ⟨meth, c⟩, ⟨D, aT, B⟩, ⟨n0, sl0⟩, ⟨nC, sC⟩, Qx⟩ := X
  obtain ⟨hx, hb, hml, hr, hlk, hown, hnm, hts, hK, hF, hL, hRc, hRs, hB⟩ := C
  intro H locs ls kc z h1 h2 h3 h4 h5 h6
  obtain ⟨N, f, he, hi, rfl⟩ := xsI_spec hq0
  refine W.zast hx hb (h2 a _ he) ((hK.1.2 1 _ rfl).1 N (fun j => .int (f j))) (fun q => by cases q) (by show ¬ (i < 0 ∨ (arrV _ _ _).slots.size ≤ _); rw [arrV_size]; exact hi) rfl rfl d fun H1 e1 e2 e3 => ?_
  refine kk H1 _ ls kc z h1 (h2.put ?_ e3) (e2.trans h3) (h4.put e2 e3 (Nat.le_add_right B a)) h5 h6
  show H1[B + a]? = some (vp_cell _ _)
  rw [e1]
  simp only [xva]
  rw [vp_cell_i, vp_cell_i, arrV_store]
  congr 2
  funext q
  by_cases hq : q = i.toNatClampNeg
  · subst hq
    simp [updV, upd, vp_nar]
    try rfl
  · simp [updV, upd, hq]
theorem xw_aaload {X : XCtx} {own : String} {cc : ByteArray} {nL : Nat} {nm : String} {ret : Option FieldType} {fr lo : Nat} (C : XOK X own cc nL nm ret fr lo) {pc : Nat} {L : List (Option Value)} {st : List Value} {h : XH} {n sl : Nat} {a : Nat} {i : Int32} {v : Option Nat} (d : decode cc pc = .ok (.aaload, 1)) (hq0 : xaQ h a i = some v) (kk : XW X (pc + 1) L (va_rf v :: st) h n sl) : XW X pc L (.int i :: .ref a :: st) h n sl := by
  obtain ⟨⟨p, l, e, R⟩, ⟨s, m, args, below⟩, ⟨meth, c⟩, ⟨D, aT, B⟩, ⟨n0, sl0⟩, ⟨nC, sC⟩, Qx⟩ := X
  obtain ⟨hx, hb, hml, hr, hlk, hown, hnm, hts, hK, hF, hL, hRc, hRs, hB⟩ := C
  intro H locs ls kc z h1 h2 h3 h4 h5 h6
  obtain ⟨N, f, he, hi, rfl⟩ := xaQ_spec hq0
  refine va_aldq hx hb hK.1 (h2.one he) 0 2 rfl rfl hi d ?_
  have k2 := (kk H locs ls kc z h1 h2 h3 h4 h5 h6)
  simp only [List.map_cons] at k2
  cases hq : f i.toNatClampNeg with
  | none => simp only [hq, Option.map_none] at k2 ⊢; exact k2
  | some q => simp only [hq, Option.map_some] at k2 ⊢; exact k2
theorem xw_aastore {X : XCtx} {own : String} {cc : ByteArray} {nL : Nat} {nm : String} {ret : Option FieldType} {fr lo : Nat} (C : XOK X own cc nL nm ret fr lo) {pc : Nat} {L : List (Option Value)} {st : List Value} {h : XH} {n sl : Nat} {a v : Nat} {i : Int32} {h1' : XH} (d : decode cc pc = .ok (.aastore, 1)) (hq0 : xsQ h a i v = some h1') (kk : XW X (pc + 1) L st h1' n sl) : XW X pc L (.ref v :: .int i :: .ref a :: st) h n sl := by
  obtain ⟨⟨p, l, e, R⟩, ⟨s, m, args, below⟩, ⟨meth, c⟩, ⟨D, aT, B⟩, ⟨n0, sl0⟩, ⟨nC, sC⟩, Qx⟩ := X
  obtain ⟨hx, hb, hml, hr, hlk, hown, hnm, hts, hK, hF, hL, hRc, hRs, hB⟩ := C
  intro H locs ls kc z h1 h2 h3 h4 h5 h6
  obtain ⟨N, f, fs, he, hv, hi, rfl⟩ := xsQ_spec hq0
  have hlt : i.toNatClampNeg < N := Nat.not_le.mp fun q => hi (Or.inr q)
  have h0 : ¬ i < 0 := fun q => hi (Or.inl q)
  obtain ⟨r5, hr5, cellV, g1, g2, g3, -⟩ := h2 v _ hv
  have hr5' : r5 = (RX5, TX5, 4) := Option.some.inj (hr5.symm.trans rfl)
  subst hr5'
  have hcls := (hK.1.1 5 _ hr5).2
  obtain ⟨kA, comp, k1, k2, k3, -⟩ := (hK.1.2 2 _ rfl).2
  have hcomp : comp = D.1 5 := Option.some.inj (k3.symm.trans hcls.1)
  subst hcomp
  obtain ⟨kC, hkC, -⟩ := hcls.2
  refine W.aast hx hb (h2 a _ he) (fun q h => by cases h) (fun h => by cases h) k1 k2 rfl hkC ⟨h0, by show _ < (arrV _ _ _).slots.size; rw [arrV_size]; exact hlt⟩ g1 (fun q h => by rw [g3] at h; cases h) (by rw [g2]; exact hkC) (by rw [g2]; exact va_assign hcls) rfl rfl d fun H1 e1 e2 e3 => ?_
  refine kk H1 _ ls kc z h1 (h2.put ?_ e3) (e2.trans h3) (h4.put e2 e3 (Nat.le_add_right B a)) h5 h6
  show H1[B + a]? = some (vp_cell _ _)
  rw [e1]
  simp only [xva]
  rw [vp_cell_q, vp_cell_q, arrV_store]
  congr 2
  funext q
  by_cases hq : q = i.toNatClampNeg
  · subst hq
    simp [updV, va_up, va_rf]
  · simp [updV, va_up, hq]
theorem xw_alen {X : XCtx} {own : String} {cc : ByteArray} {nL : Nat} {nm : String} {ret : Option FieldType} {fr lo : Nat} (C : XOK X own cc nL nm ret fr lo) {pc : Nat} {L : List (Option Value)} {st : List Value} {h : XH} {n sl : Nat} {a : Nat} {v : Int32} (d : decode cc pc = .ok (.arraylength, 1)) (hq0 : xln h a = some v) (kk : XW X (pc + 1) L (.int v :: st) h n sl) : XW X pc L (.ref a :: st) h n sl := by
  obtain ⟨⟨p, l, e, R⟩, ⟨s, m, args, below⟩, ⟨meth, c⟩, ⟨D, aT, B⟩, ⟨n0, sl0⟩, ⟨nC, sC⟩, Qx⟩ := X
  obtain ⟨hx, hb, hml, hr, hlk, hown, hnm, hts, hK, hF, hL, hRc, hRs, hB⟩ := C
  intro H locs ls kc z h1 h2 h3 h4 h5 h6
  obtain ⟨t, N, x, he, ht, rfl⟩ := xln_spec hq0
  have hN : (xva B (N, x)).1 = N := by obtain f | f | f | f | f := x <;> rfl
  rcases (show t = 0 ∨ t = 1 ∨ t = 2 by omega) with rfl | rfl | rfl
  · exact va_alen hx hb hK.1 (h2.one he) 0 0 rfl rfl (by rw [hN]) d (kk H locs ls kc z h1 h2 h3 h4 h5 h6)
  · exact va_alen hx hb hK.1 (h2.one he) 0 1 rfl rfl (by rw [hN]) d (kk H locs ls kc z h1 h2 h3 h4 h5 h6)
  · exact va_alen hx hb hK.1 (h2.one he) 0 2 rfl rfl (by rw [hN]) d (kk H locs ls kc z h1 h2 h3 h4 h5 h6)
theorem xw_newI {X : XCtx} {own : String} {cc : ByteArray} {nL : Nat} {nm : String} {ret : Option FieldType} {fr lo : Nat} (C : XOK X own cc nL nm ret fr lo) {pc : Nat} {L : List (Option Value)} {st : List Value} {h : XH} {n sl : Nat} {i : Int32} {N : Nat} (d : decode cc pc = .ok (.newarray .int, 2)) (ha : Cond.arrayClass .int ∈ tblG) (hn : ¬ i < 0) (hN : i.toNatClampNeg = N) (hsm : N ≤ 100000) (hc : XN X (n + 1) (sl + N)) (kk : XW X (pc + 2) L (.ref n :: st) (xup h n (.inr (0, N, .inl (fun _ => 0)))) (n + 1) (sl + N)) : XW X pc L (.int i :: st) h n sl := by
  obtain ⟨⟨p, l, e, R⟩, ⟨s, m, args, below⟩, ⟨meth, c⟩, ⟨D, aT, B⟩, ⟨n0, sl0⟩, ⟨nC, sC⟩, Qx⟩ := X
  obtain ⟨hx, hb, hml, hr, hlk, hown, hnm, hts, hK, hF, hL, hRc, hRs, hB⟩ := C
  intro H locs ls kc z h1 h2 h3 h4 h5 h6
  dsimp only [XN] at hc
  refine va_newaK hx hb (atype := .int) (hts _ ha) rfl d rfl hn hN (by show N * 4 ≤ 536870912; omega) (by rw [hRc]; omega) (by rw [hRs]; omega) h3 fun H1 cA e1 e2 e3 hAr hNm => ?_
  have hcA : cA = aT 0 := by
    have q := (hK.1.2 0 _ rfl).2
    exact Option.some.inj (hNm.symm.trans q)
  subst hcA
  refine kk H1 _ ls (kc + 1) (z + N) h1 (h2.push h3 ?_ (fun q hq => e3 q (by omega))) (by omega) (h4.grow (by omega) (fun q hq => e3 q (by omega))) (by omega) (by omega)
  show H1[B + n]? = some (vp_cell _ _)
  rw [e1]
  rfl
theorem xw_newZ {X : XCtx} {own : String} {cc : ByteArray} {nL : Nat} {nm : String} {ret : Option FieldType} {fr lo : Nat} (C : XOK X own cc nL nm ret fr lo) {pc : Nat} {L : List (Option Value)} {st : List Value} {h : XH} {n sl : Nat} {i : Int32} {N : Nat} (d : decode cc pc = .ok (.newarray .boolean, 2)) (ha : Cond.arrayClass .boolean ∈ tblG) (hn : ¬ i < 0) (hN : i.toNatClampNeg = N) (hsm : N ≤ 100000) (hc : XN X (n + 1) (sl + N)) (kk : XW X (pc + 2) L (.ref n :: st) (xup h n (.inr (1, N, .inl (fun _ => 0)))) (n + 1) (sl + N)) : XW X pc L (.int i :: st) h n sl := by
  obtain ⟨⟨p, l, e, R⟩, ⟨s, m, args, below⟩, ⟨meth, c⟩, ⟨D, aT, B⟩, ⟨n0, sl0⟩, ⟨nC, sC⟩, Qx⟩ := X
  obtain ⟨hx, hb, hml, hr, hlk, hown, hnm, hts, hK, hF, hL, hRc, hRs, hB⟩ := C
  intro H locs ls kc z h1 h2 h3 h4 h5 h6
  dsimp only [XN] at hc
  refine va_newaK hx hb (atype := .boolean) (hts _ ha) rfl d rfl hn hN (by show N * 1 ≤ 536870912; omega) (by rw [hRc]; omega) (by rw [hRs]; omega) h3 fun H1 cA e1 e2 e3 hAr hNm => ?_
  have hcA : cA = aT 1 := by
    have q := (hK.1.2 1 _ rfl).2
    exact Option.some.inj (hNm.symm.trans q)
  subst hcA
  refine kk H1 _ ls (kc + 1) (z + N) h1 (h2.push h3 ?_ (fun q hq => e3 q (by omega))) (by omega) (h4.grow (by omega) (fun q hq => e3 q (by omega))) (by omega) (by omega)
  show H1[B + n]? = some (vp_cell _ _)
  rw [e1]
  rfl
theorem xw_newQ {X : XCtx} {own : String} {cc : ByteArray} {nL : Nat} {nm : String} {ret : Option FieldType} {fr lo : Nat} (C : XOK X own cc nL nm ret fr lo) {pc : Nat} {L : List (Option Value)} {st : List Value} {h : XH} {n sl : Nat} {index : Nat} {i : Int32} {N : Nat} (d : decode cc pc = .ok (.anewarray index, 3)) (ha : Cond.classLink own index RX5 ∈ tblG) (hn : ¬ i < 0) (hN : i.toNatClampNeg = N) (hsm : N ≤ 100000) (hc : XN X (n + 1) (sl + N)) (kk : XW X (pc + 3) L (.ref n :: st) (xup h n (.inr (2, N, .inr (.inr (.inr (.inr (fun _ => none))))))) (n + 1) (sl + N)) : XW X pc L (.int i :: st) h n sl := by
  obtain ⟨⟨p, l, e, R⟩, ⟨s, m, args, below⟩, ⟨meth, c⟩, ⟨D, aT, B⟩, ⟨n0, sl0⟩, ⟨nC, sC⟩, Qx⟩ := X
  obtain ⟨hx, hb, hml, hr, hlk, hown, hnm, hts, hK, hF, hL, hRc, hRs, hB⟩ := C
  intro H locs ls kc z h1 h2 h3 h4 h5 h6
  dsimp only [XN] at hc
  subst hN
  refine W.anew hx hb hown (hts _ ha) (va_AO.use hK.2.2) rfl d rfl hn (by omega) (by rw [hRc]; omega) (by rw [hRs]; omega) fun cA kA comp f1 f2 f3 f4 => ?_
  generalize hH1 : H.push ({ cls := cA, slots := Array.replicate i.toNatClampNeg .null, vm := .none } : Cell) = H1
  have z1 : H1.size = H.size + 1 := by rw [← hH1, Array.size_push]
  have e1 : H1[H.size]? = some (arrV cA i.toNatClampNeg (fun _ => .null)) := by rw [← hH1, Array.getElem?_push_size, ← arrV_new]
  have o1 : ∀ q : Nat, q < H.size → H1[q]? = H[q]? := fun q hq => by rw [← hH1, Array.getElem?_push, if_neg (Nat.ne_of_lt hq)]
  have hcA : cA = aT 2 := by
    obtain ⟨kA', comp', k1, k2, k3, k4⟩ := (hK.1.2 2 _ rfl).2
    exact Option.some.inj (f1.symm.trans k4)
  subst hcA
  have k3 := kk H1 _ ls (kc + 1) (z + i.toNatClampNeg) h1 (h2.push h3 (by
    show H1[B + n]? = some (vp_cell _ _)
    rw [← h3, e1]
    rfl) o1) (by omega) (h4.grow (by omega) o1) (by omega) (by omega)
  rw [h3]
  exact k3
/-- what is decided of a class that is made: its words, its types, its first values -/
def XNw (ci : Nat) (C : String) (N : Nat) (fs : List Value) : Prop := ∃ (T : u_T) (ty : Nat → FieldType), vwCl[ci]? = some (C, T, N) ∧ (∀ w ∈ u_ws C T N, w ∈ tblG) ∧ (∀ j, j < N → parseFieldDescriptor (T j).2.2.1 = some (ty j)) ∧ (∀ j, j < N → defaultValue (ty j) = vp_V fs j) ∧ Cond.instantiable C N ∈ tblG ∧ Cond.initialized C ∈ tblG ∧ ∀ B, fs.map (xv B) = fs
theorem xw_new {X : XCtx} {own : String} {cc : ByteArray} {nL : Nat} {nm : String} {ret : Option FieldType} {fr lo : Nat} (C : XOK X own cc nL nm ret fr lo) {pc : Nat} {L : List (Option Value)} {st : List Value} {h : XH} {n sl : Nat} {index ci N : Nat} {Cn : String} {fs : List Value} (d : decode cc pc = .ok (.new index, 3)) (ha : Cond.classLink own index Cn ∈ tblG) (hN : XNw ci Cn N fs) (hc : XN X (n + 1) (sl + N)) (kk : XW X (pc + 3) L (.ref n :: st) (xup h n (.inl (ci, fs))) (n + 1) (sl + N)) : XW X pc L st h n sl := by
  obtain ⟨⟨p, l, e, R⟩, ⟨s, m, args, below⟩, ⟨meth, c⟩, ⟨D, aT, B⟩, ⟨n0, sl0⟩, ⟨nC, sC⟩, Qx⟩ := X
  obtain ⟨hx, hb, hml, hr, hlk, hown, hnm, hts, hK, hF, hL, hRc, hRs, hB⟩ := C
  intro H locs ls kc z h1 h2 h3 h4 h5 h6
  dsimp only [XN] at hc
  obtain ⟨T, ty, g1, g2, g3, g4, g5, g6, g7⟩ := hN
  have hKn := hK.1.1 ci _ g1
  refine W.newcK hx hb hown (hts _ ha) (hts _ g5) (hts _ g6) rfl d (by rw [hRc]; omega) (by rw [hRs]; omega) hKn.2.1 h3 fun H1 kC hkC e1 e2 e3 => ?_
  refine kk H1 _ ls (kc + 1) (z + N) h1 (h2.push h3 ?_ (fun q hq => e3 q (by omega))) (by omega) (h4.grow (by omega) (fun q hq => e3 q (by omega))) (by omega) (by omega)
  refine ⟨_, g1, ?_⟩
  show t_OB _ _ _ _ _ (vp_V (fs.map (xv B)))
  rw [g7 B]
  exact (u_born ty hts g2 hKn hkC e1 g3).to g4
theorem xw_objInit {X : XCtx} {own : String} {cc : ByteArray} {nL : Nat} {nm : String} {ret : Option FieldType} {fr lo : Nat} (C : XOK X own cc nL nm ret fr lo) {pc : Nat} {L : List (Option Value)} {st : List Value} {h : XH} {n sl : Nat} {index a : Nat} (d : decode cc pc = .ok (.invokespecial index, 3)) (hl : Cond.methodLink own index objectInit ∈ tblG) (hi : Cond.instanceMethod objectInit ∈ tblG) (hcd : Cond.code objectInit ⟨#[0xb1]⟩ 1 none ∈ tblG) (hfr : 1 ≤ fr) (hlo : (st.map fun v => v.category).sum + 12 ≤ lo) (kk : XW X (pc + 3) L st h n sl) : XW X pc L (.ref a :: st) h n sl := by
  obtain ⟨⟨p, l, e, R⟩, ⟨s, m, args, below⟩, ⟨meth, c⟩, ⟨D, aT, B⟩, ⟨n0, sl0⟩, ⟨nC, sC⟩, Qx⟩ := X
  obtain ⟨hx, hb, hml, hr, hlk, hown, hnm, hts, hK, hF, hL, hRc, hRs, hB⟩ := C
  intro H locs ls kc z h1 h2 h3 h4 h5 h6
  have hs : ((st.map (xv B)).map fun v => v.category).sum = (st.map fun v => v.category).sum := by
    rw [List.map_map]
    congr 2
    funext v
    exact xv_cat B v
  exact W.objInit hx hb hown (hts _ hl) (hts _ hi) (hts _ hcd) rfl h1.1 rfl d (by rw [hF]; exact hfr) (by rw [hL, hs]; show 2 * 0 + _ + 12 ≤ lo; omega) (kk H locs ls kc z h1 h2 h3 h4 h5 h6)
/-- what is decided of a method that is called -/
def XD (y : MethodName) (bytes : ByteArray) (maxL : Nat) (ret : Option FieldType) (np : Nat) : Prop := Cond.code y bytes maxL ret ∈ tblG ∧ Cond.initialized y.cls ∈ tblG ∧ y.cls ≠ "java/lang/invoke/MethodHandle" ∧ y.cls ≠ "java/lang/invoke/VarHandle" ∧ (parseMethodDescriptor y.desc).map (fun d => d.parameters.length) = some np
def XDV (y : MethodName) (ci : Nat) : Prop := Cond.instanceMethod y ∈ tblG ∧ Cond.selects y.cls y y ∈ tblG ∧ ∃ T N, vwCl[ci]? = some (y.cls, T, N)
theorem xgood {y : MethodName} {bytes : ByteArray} {maxL : Nat} {ret : Option FieldType} (h : Cond.code y bytes maxL ret ∈ tblG) : GoodIn tblG (Cond.code y bytes maxL ret :: tblG) := fun w hw => by
  have hm : w ∈ tblG := (List.mem_cons.mp hw).elim (fun e => e ▸ h) id
  exact ⟨hm, good_of_word (tblG_good w hm)⟩
theorem xblind {D : va_G} {aT : Nat → ClassId} {B : Nat} {av : List Value} {h : XH} {n : Nat} : FrameBlind (XP D aT B av h n) := fun a U g mk q => ⟨q.1, q.2.1, q.2.2.1, XK.same (s := U) (U := U.calling g mk a) rfl q.2.2.2⟩
theorem xsum8 {B : Nat} {st : List Value} {m : MethodId} {pc : Nat} {ls : Array Slot} {st' : List Value} (h : (st.map fun v => v.category).sum ≤ 8) : 2 * (F0 m pc ls st').monitorRoom + ((st.map (xv B)).map fun v => v.category).sum ≤ 8 := by
  have hs : ((st.map (xv B)).map fun v => v.category).sum = (st.map fun v => v.category).sum := by
    rw [List.map_map]
    congr 2
    funext v
    exact xv_cat B v
  rw [hs]
  show 2 * 0 + _ ≤ 8
  omega
theorem xw_callV {X : XCtx} {own : String} {cc : ByteArray} {nL : Nat} {nm : String} {ret : Option FieldType} {fr lo : Nat} (C : XOK X own cc nL nm ret fr lo) {pc : Nat} {L : List (Option Value)} {st : List Value} {h : XH} {n sl : Nat} {y : MethodName} {bytes : ByteArray} {maxL np fr1 lo1 index : Nat} {rt : Option FieldType} {As : List Value} {r1 : Option Value} {h1' : XH} {n1 sl1 : Nat} {a : Nat} {ci : Nat} (d : decode cc pc = .ok (.invokevirtual index, 3)) (hM : XM X.1.2.1 y bytes maxL rt fr1 lo1 (.ref a :: As) h n sl r1 h1' n1 sl1) (hD : XD y bytes maxL rt np) (hl : Cond.methodLink own index y ∈ tblG) (hV : XDV y ci) (hco : ∃ fs, h a = some (.inl (ci, fs))) (hlen : As.length = np) (h8 : (st.map fun v => v.category).sum ≤ 8) (hfr : fr1 + 1 ≤ fr) (hlo : 8 + (maxL + 11) + lo1 ≤ lo) (hm : n ≤ n1 ∧ sl ≤ sl1) (hc : XN X n1 sl1) (kk : XW X (pc + 3) L (r1.toList ++ st) h1' n1 sl1) : XW X pc L (As.reverse ++ .ref a :: st) h n sl := by
  obtain ⟨⟨p, l, e, R⟩, ⟨s, m, args, below⟩, ⟨meth, c⟩, ⟨D, aT, B⟩, ⟨n0, sl0⟩, ⟨nC, sC⟩, Qx⟩ := X
  obtain ⟨hx, hb, hml, hr, hlk, hown, hnm, hts, hK, hF, hL, hRc, hRs, hB⟩ := C
  intro H locs ls kc z h1 h2 h3 h4 h5 h6
  dsimp only [XN] at hc hM
  obtain ⟨fs, hco⟩ := hco
  obtain ⟨T, N, hci⟩ := hV.2.2
  have hst : (As.reverse ++ .ref a :: st).map (xv B) = (As.map (xv B)).reverse ++ .ref (B + a) :: st.map (xv B) := by
    rw [List.map_append, ← List.map_reverse]; rfl
  have hrun := va_runV (C := y.cls) (e := e) (below := below) (meth := meth) (H := H) (locs := locs) (cells := kc) (slots := z) (As := (As.map (xv B))) (rest := st.map (xv B)) (g := F0 m pc ls ((As.reverse ++ .ref a :: st).map (xv B))) ⟨hx, hb, hml, hown, hts⟩ (hM D aT B) ⟨callB_of (bytes := bytes) (maxL := maxL) (ret := rt) np hts (xgood hD.1) rfl rfl rfl (hts _ hD.2.1) (hts _ hl) hD.2.2 (by rw [hF, hL]; exact ⟨hfr, hlo⟩), hts _ hV.1, hts _ hV.2.1⟩ ⟨xblind, va_recv (cl := vwCl) hK.1 (h2.one hco) hci (q0 := 0) rfl, fun U hU hW => ⟨rfl, by rw [hU]; exact h2, by rw [hU]; exact h3, hK.warm hW⟩⟩ rfl (by rw [List.length_map]; exact hlen) (h1.1.trans hml) hst (xsum8 h8) d ⟨by rw [hRc]; omega, by rw [hRs]; omega⟩
  intro Tt hT Xs
  obtain ⟨v, st₀, t, T', Lc, e0, X', hLc, e1, e2, ⟨hv, hP1, hz1, hF1⟩, stp⟩ := hrun Tt hT Xs
  cases hv
  have e3 : T'.heap.size = B + n1 := by rw [e1]; exact hz1
  have hk : ∀ q : Nat, q < H.size → ¬ B ≤ q → T'.heap[q]? = H[q]? := fun q hq hq2 => by rw [e1, ← e0]; exact hF1.2 q (by rw [e0]; exact hq) hq2
  obtain ⟨t2, a2, b2⟩ := kk T'.heap (locs ++ Lc) ls (kc + (n1 - n)) (z + (sl1 - sl)) h1 (by rw [e1]; exact hP1) e3
    ⟨Nat.le_trans h4.1 (by omega), fun q q1 q2 => (hk q (Nat.lt_of_lt_of_le q1 h4.1) q2).trans (h4.2.1 q q1 q2), fun q hq => (List.mem_append.mp hq).elim (h4.2.2 q) (hLc q)⟩ (by omega) (by omega) T' rfl X'
  refine ⟨t2, stp t2 ?_, b2⟩
  cases r1 <;> exact a2
theorem xw_callS {X : XCtx} {own : String} {cc : ByteArray} {nL : Nat} {nm : String} {ret : Option FieldType} {fr lo : Nat} (C : XOK X own cc nL nm ret fr lo) {pc : Nat} {L : List (Option Value)} {st : List Value} {h : XH} {n sl : Nat} {y : MethodName} {bytes : ByteArray} {maxL np fr1 lo1 index : Nat} {rt : Option FieldType} {As : List Value} {r1 : Option Value} {h1' : XH} {n1 sl1 : Nat} (d : decode cc pc = .ok (.invokestatic index, 3)) (hM : XM X.1.2.1 y bytes maxL rt fr1 lo1 (As) h n sl r1 h1' n1 sl1) (hD : XD y bytes maxL rt np) (hl : Cond.methodLink own index y ∈ tblG) (hS : Cond.static y ∈ tblG) (hlen : As.length = np) (h8 : (st.map fun v => v.category).sum ≤ 8) (hfr : fr1 + 1 ≤ fr) (hlo : 8 + (maxL + 11) + lo1 ≤ lo) (hm : n ≤ n1 ∧ sl ≤ sl1) (hc : XN X n1 sl1) (kk : XW X (pc + 3) L (r1.toList ++ st) h1' n1 sl1) : XW X pc L (As.reverse ++ st) h n sl := by
  obtain ⟨⟨p, l, e, R⟩, ⟨s, m, args, below⟩, ⟨meth, c⟩, ⟨D, aT, B⟩, ⟨n0, sl0⟩, ⟨nC, sC⟩, Qx⟩ := X
  obtain ⟨hx, hb, hml, hr, hlk, hown, hnm, hts, hK, hF, hL, hRc, hRs, hB⟩ := C
  intro H locs ls kc z h1 h2 h3 h4 h5 h6
  dsimp only [XN] at hc hM
  have hst : (As.reverse ++ st).map (xv B) = (As.map (xv B)).reverse ++ st.map (xv B) := by
    rw [List.map_append, ← List.map_reverse]
  have hrun := va_runS (e := e) (below := below) (meth := meth) (H := H) (locs := locs) (cells := kc) (slots := z) (As := (As.map (xv B))) (rest := st.map (xv B)) (g := F0 m pc ls ((As.reverse ++ st).map (xv B))) ⟨hx, hb, hml, hown, hts⟩ (hM D aT B) ⟨callB_of (bytes := bytes) (maxL := maxL) (ret := rt) np hts (xgood hD.1) rfl rfl rfl (hts _ hD.2.1) (hts _ hl) hD.2.2 (by rw [hF, hL]; exact ⟨hfr, hlo⟩), hts _ hS⟩ ⟨xblind, fun U hU hW => ⟨rfl, by rw [hU]; exact h2, by rw [hU]; exact h3, hK.warm hW⟩⟩ rfl (by rw [List.length_map]; exact hlen) (h1.1.trans hml) hst (xsum8 h8) d ⟨by rw [hRc]; omega, by rw [hRs]; omega⟩
  intro Tt hT Xs
  obtain ⟨v, st₀, t, T', Lc, e0, X', hLc, e1, e2, ⟨hv, hP1, hz1, hF1⟩, stp⟩ := hrun Tt hT Xs
  cases hv
  have e3 : T'.heap.size = B + n1 := by rw [e1]; exact hz1
  have hk : ∀ q : Nat, q < H.size → ¬ B ≤ q → T'.heap[q]? = H[q]? := fun q hq hq2 => by rw [e1, ← e0]; exact hF1.2 q (by rw [e0]; exact hq) hq2
  obtain ⟨t2, a2, b2⟩ := kk T'.heap (locs ++ Lc) ls (kc + (n1 - n)) (z + (sl1 - sl)) h1 (by rw [e1]; exact hP1) e3
    ⟨Nat.le_trans h4.1 (by omega), fun q q1 q2 => (hk q (Nat.lt_of_lt_of_le q1 h4.1) q2).trans (h4.2.1 q q1 q2), fun q hq => (List.mem_append.mp hq).elim (h4.2.2 q) (hLc q)⟩ (by omega) (by omega) T' rfl X'
  refine ⟨t2, stp t2 ?_, b2⟩
  cases r1 <;> exact a2
theorem xw_callI {X : XCtx} {own : String} {cc : ByteArray} {nL : Nat} {nm : String} {ret : Option FieldType} {fr lo : Nat} (C : XOK X own cc nL nm ret fr lo) {pc : Nat} {L : List (Option Value)} {st : List Value} {h : XH} {n sl : Nat} {y : MethodName} {bytes : ByteArray} {maxL np fr1 lo1 index : Nat} {As : List Value} {r1 : Option Value} {h1' : XH} {n1 sl1 : Nat} {a : Nat} (d : decode cc pc = .ok (.invokespecial index, 3)) (hM : XM X.1.2.1 y bytes maxL none fr1 lo1 (.ref a :: As) h n sl r1 h1' n1 sl1) (hD : XD y bytes maxL none np) (hl : Cond.methodLink own index y ∈ tblG) (hI : Cond.instanceMethod y ∈ tblG) (hy1 : y.name = "<init>") (hlen : As.length = np) (h8 : (st.map fun v => v.category).sum ≤ 8) (hfr : fr1 + 1 ≤ fr) (hlo : 8 + (maxL + 11) + lo1 ≤ lo) (hm : n ≤ n1 ∧ sl ≤ sl1) (hc : XN X n1 sl1) (kk : XW X (pc + 3) L (r1.toList ++ st) h1' n1 sl1) : XW X pc L (As.reverse ++ .ref a :: st) h n sl := by
  obtain ⟨⟨p, l, e, R⟩, ⟨s, m, args, below⟩, ⟨meth, c⟩, ⟨D, aT, B⟩, ⟨n0, sl0⟩, ⟨nC, sC⟩, Qx⟩ := X
  obtain ⟨hx, hb, hml, hr, hlk, hown, hnm, hts, hK, hF, hL, hRc, hRs, hB⟩ := C
  intro H locs ls kc z h1 h2 h3 h4 h5 h6
  dsimp only [XN] at hc hM
  have hst : (As.reverse ++ .ref a :: st).map (xv B) = (As.map (xv B)).reverse ++ .ref (B + a) :: st.map (xv B) := by
    rw [List.map_append, ← List.map_reverse]; rfl
  have hrun := va_runI (e := e) (below := below) (meth := meth) (H := H) (locs := locs) (cells := kc) (slots := z) (As := (As.map (xv B))) (rest := st.map (xv B)) (g := F0 m pc ls ((As.reverse ++ .ref a :: st).map (xv B))) ⟨hx, hb, hml, hown, hts⟩ (hM D aT B) ⟨callB_of (bytes := bytes) (maxL := maxL) (ret := none) np hts (xgood hD.1) rfl rfl rfl (hts _ hD.2.1) (hts _ hl) hD.2.2 (by rw [hF, hL]; exact ⟨hfr, hlo⟩), hy1, hts _ hI⟩ ⟨xblind, fun U hU hW => ⟨rfl, by rw [hU]; exact h2, by rw [hU]; exact h3, hK.warm hW⟩⟩ rfl (by rw [List.length_map]; exact hlen) (h1.1.trans hml) hst (xsum8 h8) d ⟨by rw [hRc]; omega, by rw [hRs]; omega⟩
  intro Tt hT Xs
  obtain ⟨v, st₀, t, T', Lc, e0, X', hLc, e1, e2, ⟨hv, hP1, hz1, hF1⟩, stp⟩ := hrun Tt hT Xs
  cases hv
  have e3 : T'.heap.size = B + n1 := by rw [e1]; exact hz1
  have hk : ∀ q : Nat, q < H.size → ¬ B ≤ q → T'.heap[q]? = H[q]? := fun q hq hq2 => by rw [e1, ← e0]; exact hF1.2 q (by rw [e0]; exact hq) hq2
  obtain ⟨t2, a2, b2⟩ := kk T'.heap (locs ++ Lc) ls (kc + (n1 - n)) (z + (sl1 - sl)) h1 (by rw [e1]; exact hP1) e3
    ⟨Nat.le_trans h4.1 (by omega), fun q q1 q2 => (hk q (Nat.lt_of_lt_of_le q1 h4.1) q2).trans (h4.2.1 q q1 q2), fun q hq => (List.mem_append.mp hq).elim (h4.2.2 q) (hLc q)⟩ (by omega) (by omega) T' rfl X'
  refine ⟨t2, stp t2 ?_, b2⟩
  cases r1 <;> exact a2
theorem xw_callSN {X : XCtx} {own : String} {cc : ByteArray} {nL : Nat} {nm : String} {ret : Option FieldType} {fr lo : Nat} (C : XOK X own cc nL nm ret fr lo) {pc : Nat} {L : List (Option Value)} {st : List Value} {h : XH} {n sl : Nat} {y : MethodName} {bytes : ByteArray} {maxL np fr1 lo1 index : Nat} {rt : Option FieldType} {As : List Value} {r1 : Option Value} {h1' : XH} {n1 sl1 : Nat} {host : String} (d : decode cc pc = .ok (.invokestatic index, 3)) (hM : XM X.1.2.1 y bytes maxL rt fr1 lo1 (As) h n sl r1 h1' n1 sl1) (hD : XD y bytes maxL rt np) (hl : Cond.methodLinkNest own index y host ∈ nestG) (hS : Cond.static y ∈ tblG) (hlen : As.length = np) (h8 : (st.map fun v => v.category).sum ≤ 8) (hfr : fr1 + 1 ≤ fr) (hlo : 8 + (maxL + 11) + lo1 ≤ lo) (hm : n ≤ n1 ∧ sl ≤ sl1) (hc : XN X n1 sl1) (kk : XW X (pc + 3) L (r1.toList ++ st) h1' n1 sl1) : XW X pc L (As.reverse ++ st) h n sl := by
  obtain ⟨⟨p, l, e, R⟩, ⟨s, m, args, below⟩, ⟨meth, c⟩, ⟨D, aT, B⟩, ⟨n0, sl0⟩, ⟨nC, sC⟩, Qx⟩ := X
  obtain ⟨hx, hb, hml, hr, hlk, hown, hnm, hts, hK, hF, hL, hRc, hRs, hB⟩ := C
  intro H locs ls kc z h1 h2 h3 h4 h5 h6
  dsimp only [XN] at hc hM
  have hst : (As.reverse ++ st).map (xv B) = (As.map (xv B)).reverse ++ st.map (xv B) := by
    rw [List.map_append, ← List.map_reverse]
  have hrun := va_runSN (e := e) (below := below) (meth := meth) (H := H) (locs := locs) (cells := kc) (slots := z) (As := (As.map (xv B))) (rest := st.map (xv B)) (g := F0 m pc ls ((As.reverse ++ st).map (xv B))) ⟨hx, hb, hml, hown, hts⟩ (hM D aT B) ⟨va_cnB (bytes := bytes) (maxL := maxL) (ret := rt) np hts (xgood hD.1) rfl rfl rfl (hK.2.1 _ hl) (hts _ hD.2.1) hD.2.2 (by rw [hF, hL]; exact ⟨hfr, hlo⟩), hts _ hS, trivial⟩ ⟨xblind, fun U hU hW => ⟨rfl, by rw [hU]; exact h2, by rw [hU]; exact h3, hK.warm hW⟩⟩ rfl (by rw [List.length_map]; exact hlen) (h1.1.trans hml) hst (xsum8 h8) d ⟨by rw [hRc]; omega, by rw [hRs]; omega⟩
  intro Tt hT Xs
  obtain ⟨v, st₀, t, T', Lc, e0, X', hLc, e1, e2, ⟨hv, hP1, hz1, hF1⟩, stp⟩ := hrun Tt hT Xs
  cases hv
  have e3 : T'.heap.size = B + n1 := by rw [e1]; exact hz1
  have hk : ∀ q : Nat, q < H.size → ¬ B ≤ q → T'.heap[q]? = H[q]? := fun q hq hq2 => by rw [e1, ← e0]; exact hF1.2 q (by rw [e0]; exact hq) hq2
  obtain ⟨t2, a2, b2⟩ := kk T'.heap (locs ++ Lc) ls (kc + (n1 - n)) (z + (sl1 - sl)) h1 (by rw [e1]; exact hP1) e3
    ⟨Nat.le_trans h4.1 (by omega), fun q q1 q2 => (hk q (Nat.lt_of_lt_of_le q1 h4.1) q2).trans (h4.2.1 q q1 q2), fun q hq => (List.mem_append.mp hq).elim (h4.2.2 q) (hLc q)⟩ (by omega) (by omega) T' rfl X'
  refine ⟨t2, stp t2 ?_, b2⟩
  cases r1 <;> exact a2
theorem xw_callIN {X : XCtx} {own : String} {cc : ByteArray} {nL : Nat} {nm : String} {ret : Option FieldType} {fr lo : Nat} (C : XOK X own cc nL nm ret fr lo) {pc : Nat} {L : List (Option Value)} {st : List Value} {h : XH} {n sl : Nat} {y : MethodName} {bytes : ByteArray} {maxL np fr1 lo1 index : Nat} {As : List Value} {r1 : Option Value} {h1' : XH} {n1 sl1 : Nat} {a : Nat} {host : String} (d : decode cc pc = .ok (.invokespecial index, 3)) (hM : XM X.1.2.1 y bytes maxL none fr1 lo1 (.ref a :: As) h n sl r1 h1' n1 sl1) (hD : XD y bytes maxL none np) (hl : Cond.methodLinkNest own index y host ∈ nestG) (hI : Cond.instanceMethod y ∈ tblG) (hy1 : y.name = "<init>") (hlen : As.length = np) (h8 : (st.map fun v => v.category).sum ≤ 8) (hfr : fr1 + 1 ≤ fr) (hlo : 8 + (maxL + 11) + lo1 ≤ lo) (hm : n ≤ n1 ∧ sl ≤ sl1) (hc : XN X n1 sl1) (kk : XW X (pc + 3) L (r1.toList ++ st) h1' n1 sl1) : XW X pc L (As.reverse ++ .ref a :: st) h n sl := by
  obtain ⟨⟨p, l, e, R⟩, ⟨s, m, args, below⟩, ⟨meth, c⟩, ⟨D, aT, B⟩, ⟨n0, sl0⟩, ⟨nC, sC⟩, Qx⟩ := X
  obtain ⟨hx, hb, hml, hr, hlk, hown, hnm, hts, hK, hF, hL, hRc, hRs, hB⟩ := C
  intro H locs ls kc z h1 h2 h3 h4 h5 h6
  dsimp only [XN] at hc hM
  have hst : (As.reverse ++ .ref a :: st).map (xv B) = (As.map (xv B)).reverse ++ .ref (B + a) :: st.map (xv B) := by
    rw [List.map_append, ← List.map_reverse]; rfl
  have hrun := va_runIN (e := e) (below := below) (meth := meth) (H := H) (locs := locs) (cells := kc) (slots := z) (As := (As.map (xv B))) (rest := st.map (xv B)) (g := F0 m pc ls ((As.reverse ++ .ref a :: st).map (xv B))) ⟨hx, hb, hml, hown, hts⟩ (hM D aT B) ⟨va_cnB (bytes := bytes) (maxL := maxL) (ret := none) np hts (xgood hD.1) rfl rfl rfl (hK.2.1 _ hl) (hts _ hD.2.1) hD.2.2 (by rw [hF, hL]; exact ⟨hfr, hlo⟩), hy1, hts _ hI⟩ ⟨xblind, fun U hU hW => ⟨rfl, by rw [hU]; exact h2, by rw [hU]; exact h3, hK.warm hW⟩⟩ rfl (by rw [List.length_map]; exact hlen) (h1.1.trans hml) hst (xsum8 h8) d ⟨by rw [hRc]; omega, by rw [hRs]; omega⟩
  intro Tt hT Xs
  obtain ⟨v, st₀, t, T', Lc, e0, X', hLc, e1, e2, ⟨hv, hP1, hz1, hF1⟩, stp⟩ := hrun Tt hT Xs
  cases hv
  have e3 : T'.heap.size = B + n1 := by rw [e1]; exact hz1
  have hk : ∀ q : Nat, q < H.size → ¬ B ≤ q → T'.heap[q]? = H[q]? := fun q hq hq2 => by rw [e1, ← e0]; exact hF1.2 q (by rw [e0]; exact hq) hq2
  obtain ⟨t2, a2, b2⟩ := kk T'.heap (locs ++ Lc) ls (kc + (n1 - n)) (z + (sl1 - sl)) h1 (by rw [e1]; exact hP1) e3
    ⟨Nat.le_trans h4.1 (by omega), fun q q1 q2 => (hk q (Nat.lt_of_lt_of_le q1 h4.1) q2).trans (h4.2.1 q q1 q2), fun q hq => (List.mem_append.mp hq).elim (h4.2.2 q) (hLc q)⟩ (by omega) (by omega) T' rfl X'
  refine ⟨t2, stp t2 ?_, b2⟩
  cases r1 <;> exact a2
theorem xw_ireturn {X : XCtx} {own : String} {cc : ByteArray} {nL : Nat} {nm : String} {ret : Option FieldType} {fr lo : Nat} (C : XOK X own cc nL nm ret fr lo) {pc : Nat} {L : List (Option Value)} {h : XH} {n sl : Nat} {v : Int32} (d : decode cc pc = .ok (.ireturn, 1)) (hrt : ret = some .int) (hX : XR X (some (.int v)) h n sl) : XW X pc L [.int v] h n sl := by
  obtain ⟨⟨p, l, e, R⟩, ⟨s, m, args, below⟩, ⟨meth, c⟩, ⟨D, aT, B⟩, ⟨n0, sl0⟩, ⟨nC, sC⟩, Qx⟩ := X
  obtain ⟨hx, hb, hml, hr, hlk, hown, hnm, hts, hK, hF, hL, hRc, hRs, hB⟩ := C
  intro H locs ls kc z h1 h2 h3 h4 h5 h6
  dsimp only [XR] at hX
  subst hX
  have e1 : n - n0 = kc := by omega
  have e2 : sl - sl0 = z := by omega
  rw [e1, e2]
  exact W.iret hx hb (hr.trans hrt) (fun t ht hW => ⟨rfl, by rw [ht]; exact h2, by rw [ht]; exact h3, h4.F ht⟩) h4.2.2 d hlk
theorem xw_zreturn {X : XCtx} {own : String} {cc : ByteArray} {nL : Nat} {nm : String} {ret : Option FieldType} {fr lo : Nat} (C : XOK X own cc nL nm ret fr lo) {pc : Nat} {L : List (Option Value)} {h : XH} {n sl : Nat} {v : Int32} (d : decode cc pc = .ok (.ireturn, 1)) (hrt : ret = some .boolean) (hn : narrow .boolean (.int v) = .int v) (hX : XR X (some (.int v)) h n sl) : XW X pc L [.int v] h n sl := by
  obtain ⟨⟨p, l, e, R⟩, ⟨s, m, args, below⟩, ⟨meth, c⟩, ⟨D, aT, B⟩, ⟨n0, sl0⟩, ⟨nC, sC⟩, Qx⟩ := X
  obtain ⟨hx, hb, hml, hr, hlk, hown, hnm, hts, hK, hF, hL, hRc, hRs, hB⟩ := C
  intro H locs ls kc z h1 h2 h3 h4 h5 h6
  dsimp only [XR] at hX
  subst hX
  have e1 : n - n0 = kc := by omega
  have e2 : sl - sl0 = z := by omega
  rw [e1, e2]
  exact W.zret hx hb (hr.trans hrt) hn (fun t ht hW => ⟨rfl, by rw [ht]; exact h2, by rw [ht]; exact h3, h4.F ht⟩) h4.2.2 d hlk
theorem xw_lreturn {X : XCtx} {own : String} {cc : ByteArray} {nL : Nat} {nm : String} {ret : Option FieldType} {fr lo : Nat} (C : XOK X own cc nL nm ret fr lo) {pc : Nat} {L : List (Option Value)} {h : XH} {n sl : Nat} {v : Int64} (d : decode cc pc = .ok (.lreturn, 1)) (hrt : ret = some .long) (hX : XR X (some (.long v)) h n sl) : XW X pc L [.long v] h n sl := by
  obtain ⟨⟨p, l, e, R⟩, ⟨s, m, args, below⟩, ⟨meth, c⟩, ⟨D, aT, B⟩, ⟨n0, sl0⟩, ⟨nC, sC⟩, Qx⟩ := X
  obtain ⟨hx, hb, hml, hr, hlk, hown, hnm, hts, hK, hF, hL, hRc, hRs, hB⟩ := C
  intro H locs ls kc z h1 h2 h3 h4 h5 h6
  dsimp only [XR] at hX
  subst hX
  have e1 : n - n0 = kc := by omega
  have e2 : sl - sl0 = z := by omega
  rw [e1, e2]
  exact W.lret hx hb (hr.trans hrt) (fun t ht hW => ⟨rfl, by rw [ht]; exact h2, by rw [ht]; exact h3, h4.F ht⟩) h4.2.2 d hlk
theorem xw_return {X : XCtx} {own : String} {cc : ByteArray} {nL : Nat} {nm : String} {ret : Option FieldType} {fr lo : Nat} (C : XOK X own cc nL nm ret fr lo) {pc : Nat} {L : List (Option Value)} {h : XH} {n sl : Nat}  (d : decode cc pc = .ok (.return_, 1)) (hrt : ret = none) (hX : XR X none h n sl) : XW X pc L [] h n sl := by
  obtain ⟨⟨p, l, e, R⟩, ⟨s, m, args, below⟩, ⟨meth, c⟩, ⟨D, aT, B⟩, ⟨n0, sl0⟩, ⟨nC, sC⟩, Qx⟩ := X
  obtain ⟨hx, hb, hml, hr, hlk, hown, hnm, hts, hK, hF, hL, hRc, hRs, hB⟩ := C
  intro H locs ls kc z h1 h2 h3 h4 h5 h6
  dsimp only [XR] at hX
  subst hX
  have e1 : n - n0 = kc := by omega
  have e2 : sl - sl0 = z := by omega
  rw [e1, e2]
  exact W.vret hx hb (hr.trans hrt) (fun t ht hW => ⟨rfl, by rw [ht]; exact h2, by rw [ht]; exact h3, h4.F ht⟩) h4.2.2 d hlk
theorem xw_areturn {X : XCtx} {own : String} {cc : ByteArray} {nL : Nat} {nm : String} {ret : Option FieldType} {fr lo : Nat} (C : XOK X own cc nL nm ret fr lo) {pc : Nat} {L : List (Option Value)} {h : XH} {n sl : Nat} {v : Option Nat} {rt : FieldType} (d : decode cc pc = .ok (.areturn, 1)) (hrt : ret = some rt) (hrf : (∃ n, rt = .object n) ∨ ∃ t, rt = .array t) (hX : XR X (some (va_rf v)) h n sl) : XW X pc L [va_rf v] h n sl := by
  obtain ⟨⟨p, l, e, R⟩, ⟨s, m, args, below⟩, ⟨meth, c⟩, ⟨D, aT, B⟩, ⟨n0, sl0⟩, ⟨nC, sC⟩, Qx⟩ := X
  obtain ⟨hx, hb, hml, hr, hlk, hown, hnm, hts, hK, hF, hL, hRc, hRs, hB⟩ := C
  intro H locs ls kc z h1 h2 h3 h4 h5 h6
  dsimp only [XR] at hX
  subst hX
  have e1 : n - n0 = kc := by omega
  have e2 : sl - sl0 = z := by omega
  rw [e1, e2]
  exact W.aret hx hb (hr.trans hrt) hrf (by cases v with | none => exact Or.inl rfl | some q => exact Or.inr ⟨B + q, rfl⟩) (fun t ht hW => ⟨rfl, by rw [ht]; exact h2, by rw [ht]; exact h3, h4.F ht⟩) h4.2.2 d hlk
/-! loops: a body that goes on with a new state or ends -/
def xloop {σ ε : Type} (b : σ → Option (σ ⊕ ε)) : Nat → σ → Option ε
  | 0, _ => none
  | f + 1, s => match b s with
    | none => none
    | some (.inl s') => xloop b f s'
    | some (.inr e) => some e
theorem xloop_walk {σ ε : Type} (b : σ → Option (σ ⊕ ε)) (P : σ → Prop) (E : ε → Prop) (hs : ∀ s o, b s = some o → (∀ s', o = .inl s' → P s') → (∀ e, o = .inr e → E e) → P s) : ∀ (f : Nat) (s : σ) (e : ε), xloop b f s = some e → E e → P s := by
  intro f
  induction f with
  | zero => intro s e h; simp [xloop] at h
  | succ f ih =>
    intro s e h hE
    simp only [xloop] at h
    cases hb : b s with
    | none => simp [hb] at h
    | some o =>
      cases o with
      | inl s' =>
        simp only [hb] at h
        exact hs s _ hb (fun s'' q => by cases q; exact ih _ e h hE) (fun e' q => by cases q)
      | inr e' =>
        simp only [hb] at h
        cases h
        exact hs s _ hb (fun s'' q => by cases q) (fun e'' q => by cases q; exact hE)
theorem xbind {α β : Type} {x : Option α} {f : α → Option β} {y : β} (h : x.bind f = some y) : ∃ a, x = some a ∧ f a = some y := by
  cases x with
  | none => simp at h
  | some a => exact ⟨a, rfl, h⟩
def xbi : Bool → Int32
  | true => 1
  | false => 0
theorem xbi_nar (b : Bool) : narrow .boolean (.int (xbi b)) = .int (xbi b) := by cases b <;> rfl
theorem xbi_ne {b : Bool} (h : ¬ xbi b = 0) : b = true := by cases b with | true => rfl | false => exact absurd rfl h
theorem xbi_eq {b : Bool} (h : xbi b = 0) : b = false := by cases b with | true => exact absurd h (by decide) | false => rfl
theorem xif_t {c : Prop} [Decidable c] {α : Type} {a b : Option α} {o : α} (q : c) (hm : (if c then a else b) = some o) : a = some o := by rw [if_pos q] at hm; exact hm
theorem xif_f {c : Prop} [Decidable c] {α : Type} {a b : Option α} {o : α} (q : ¬ c) (hm : (if c then a else b) = some o) : b = some o := by rw [if_neg q] at hm; exact hm
def xlet {α β : Type} (a : α) (f : α → Option β) : Option β := f a
theorem xlet_eq {α β : Type} {a : α} {f : α → Option β} {y : β} (h : xlet a f = some y) : f a = some y := h
theorem xw_if_eqZ {X : XCtx} {own : String} {cc : ByteArray} {nL : Nat} {nm : String} {ret : Option FieldType} {fr lo : Nat} (C : XOK X own cc nL nm ret fr lo) {pc : Nat} {L : List (Option Value)} {st : List Value} {h : XH} {n sl : Nat} {b : Bool} {off : Int} {tgt : Nat} (d : decode cc pc = .ok (.ifCond .eq off, 3)) (ht : (pc : Int) + off = (tgt : Int)) (kt : ¬ b = true → XW X tgt L st h n sl) (kf : b = true → XW X (pc + 3) L st h n sl) : XW X pc L (.int (xbi b) :: st) h n sl := xw_if_eq C d ht (fun q => kt (by cases b <;> simp_all [xbi])) (fun q => kf (by cases b <;> simp_all [xbi]))
theorem xw_if_neZ {X : XCtx} {own : String} {cc : ByteArray} {nL : Nat} {nm : String} {ret : Option FieldType} {fr lo : Nat} (C : XOK X own cc nL nm ret fr lo) {pc : Nat} {L : List (Option Value)} {st : List Value} {h : XH} {n sl : Nat} {b : Bool} {off : Int} {tgt : Nat} (d : decode cc pc = .ok (.ifCond .ne off, 3)) (ht : (pc : Int) + off = (tgt : Int)) (kt : b = true → XW X tgt L st h n sl) (kf : ¬ b = true → XW X (pc + 3) L st h n sl) : XW X pc L (.int (xbi b) :: st) h n sl := xw_if_ne C d ht (fun q => kt (by cases b <;> simp_all [xbi])) (fun q => kf (by cases b <;> simp_all [xbi]))
theorem xw_callV0 {X : XCtx} {own : String} {cc : ByteArray} {nL : Nat} {nm : String} {ret : Option FieldType} {fr lo : Nat} (C : XOK X own cc nL nm ret fr lo) {pc : Nat} {L : List (Option Value)} {st : List Value} {h : XH} {n sl : Nat} {y : MethodName} {bytes : ByteArray} {maxL np fr1 lo1 index : Nat} {rt : Option FieldType} {As : List Value}  {h1' : XH} {n1 sl1 : Nat} {a : Nat} {ci : Nat} (d : decode cc pc = .ok (.invokevirtual index, 3)) (hM : XM X.1.2.1 y bytes maxL rt fr1 lo1 (.ref a :: As) h n sl none h1' n1 sl1) (hD : XD y bytes maxL rt np) (hl : Cond.methodLink own index y ∈ tblG) (hV : XDV y ci) (hco : ∃ fs, h a = some (.inl (ci, fs))) (hlen : As.length = np) (h8 : (st.map fun v => v.category).sum ≤ 8) (hfr : fr1 + 1 ≤ fr) (hlo : 8 + (maxL + 11) + lo1 ≤ lo) (hm : n ≤ n1 ∧ sl ≤ sl1) (hc : XN X n1 sl1) (kk : XW X (pc + 3) L st h1' n1 sl1) : XW X pc L (As.reverse ++ .ref a :: st) h n sl := xw_callV C d hM hD hl hV hco hlen h8 hfr hlo hm hc kk
theorem xw_callV1 {X : XCtx} {own : String} {cc : ByteArray} {nL : Nat} {nm : String} {ret : Option FieldType} {fr lo : Nat} (C : XOK X own cc nL nm ret fr lo) {pc : Nat} {L : List (Option Value)} {st : List Value} {h : XH} {n sl : Nat} {y : MethodName} {bytes : ByteArray} {maxL np fr1 lo1 index : Nat} {rt : Option FieldType} {As : List Value} {v1 : Value} {h1' : XH} {n1 sl1 : Nat} {a : Nat} {ci : Nat} (d : decode cc pc = .ok (.invokevirtual index, 3)) (hM : XM X.1.2.1 y bytes maxL rt fr1 lo1 (.ref a :: As) h n sl (some v1) h1' n1 sl1) (hD : XD y bytes maxL rt np) (hl : Cond.methodLink own index y ∈ tblG) (hV : XDV y ci) (hco : ∃ fs, h a = some (.inl (ci, fs))) (hlen : As.length = np) (h8 : (st.map fun v => v.category).sum ≤ 8) (hfr : fr1 + 1 ≤ fr) (hlo : 8 + (maxL + 11) + lo1 ≤ lo) (hm : n ≤ n1 ∧ sl ≤ sl1) (hc : XN X n1 sl1) (kk : XW X (pc + 3) L (v1 :: st) h1' n1 sl1) : XW X pc L (As.reverse ++ .ref a :: st) h n sl := xw_callV C d hM hD hl hV hco hlen h8 hfr hlo hm hc kk
theorem xw_callS0 {X : XCtx} {own : String} {cc : ByteArray} {nL : Nat} {nm : String} {ret : Option FieldType} {fr lo : Nat} (C : XOK X own cc nL nm ret fr lo) {pc : Nat} {L : List (Option Value)} {st : List Value} {h : XH} {n sl : Nat} {y : MethodName} {bytes : ByteArray} {maxL np fr1 lo1 index : Nat} {rt : Option FieldType} {As : List Value}  {h1' : XH} {n1 sl1 : Nat} (d : decode cc pc = .ok (.invokestatic index, 3)) (hM : XM X.1.2.1 y bytes maxL rt fr1 lo1 (As) h n sl none h1' n1 sl1) (hD : XD y bytes maxL rt np) (hl : Cond.methodLink own index y ∈ tblG) (hS : Cond.static y ∈ tblG) (hlen : As.length = np) (h8 : (st.map fun v => v.category).sum ≤ 8) (hfr : fr1 + 1 ≤ fr) (hlo : 8 + (maxL + 11) + lo1 ≤ lo) (hm : n ≤ n1 ∧ sl ≤ sl1) (hc : XN X n1 sl1) (kk : XW X (pc + 3) L st h1' n1 sl1) : XW X pc L (As.reverse ++ st) h n sl := xw_callS C d hM hD hl hS hlen h8 hfr hlo hm hc kk
theorem xw_callS1 {X : XCtx} {own : String} {cc : ByteArray} {nL : Nat} {nm : String} {ret : Option FieldType} {fr lo : Nat} (C : XOK X own cc nL nm ret fr lo) {pc : Nat} {L : List (Option Value)} {st : List Value} {h : XH} {n sl : Nat} {y : MethodName} {bytes : ByteArray} {maxL np fr1 lo1 index : Nat} {rt : Option FieldType} {As : List Value} {v1 : Value} {h1' : XH} {n1 sl1 : Nat} (d : decode cc pc = .ok (.invokestatic index, 3)) (hM : XM X.1.2.1 y bytes maxL rt fr1 lo1 (As) h n sl (some v1) h1' n1 sl1) (hD : XD y bytes maxL rt np) (hl : Cond.methodLink own index y ∈ tblG) (hS : Cond.static y ∈ tblG) (hlen : As.length = np) (h8 : (st.map fun v => v.category).sum ≤ 8) (hfr : fr1 + 1 ≤ fr) (hlo : 8 + (maxL + 11) + lo1 ≤ lo) (hm : n ≤ n1 ∧ sl ≤ sl1) (hc : XN X n1 sl1) (kk : XW X (pc + 3) L (v1 :: st) h1' n1 sl1) : XW X pc L (As.reverse ++ st) h n sl := xw_callS C d hM hD hl hS hlen h8 hfr hlo hm hc kk
theorem xw_callI0 {X : XCtx} {own : String} {cc : ByteArray} {nL : Nat} {nm : String} {ret : Option FieldType} {fr lo : Nat} (C : XOK X own cc nL nm ret fr lo) {pc : Nat} {L : List (Option Value)} {st : List Value} {h : XH} {n sl : Nat} {y : MethodName} {bytes : ByteArray} {maxL np fr1 lo1 index : Nat} {As : List Value}  {h1' : XH} {n1 sl1 : Nat} {a : Nat} (d : decode cc pc = .ok (.invokespecial index, 3)) (hM : XM X.1.2.1 y bytes maxL none fr1 lo1 (.ref a :: As) h n sl none h1' n1 sl1) (hD : XD y bytes maxL none np) (hl : Cond.methodLink own index y ∈ tblG) (hI : Cond.instanceMethod y ∈ tblG) (hy1 : y.name = "<init>") (hlen : As.length = np) (h8 : (st.map fun v => v.category).sum ≤ 8) (hfr : fr1 + 1 ≤ fr) (hlo : 8 + (maxL + 11) + lo1 ≤ lo) (hm : n ≤ n1 ∧ sl ≤ sl1) (hc : XN X n1 sl1) (kk : XW X (pc + 3) L st h1' n1 sl1) : XW X pc L (As.reverse ++ .ref a :: st) h n sl := xw_callI C d hM hD hl hI hy1 hlen h8 hfr hlo hm hc kk
theorem xw_callSN0 {X : XCtx} {own : String} {cc : ByteArray} {nL : Nat} {nm : String} {ret : Option FieldType} {fr lo : Nat} (C : XOK X own cc nL nm ret fr lo) {pc : Nat} {L : List (Option Value)} {st : List Value} {h : XH} {n sl : Nat} {y : MethodName} {bytes : ByteArray} {maxL np fr1 lo1 index : Nat} {rt : Option FieldType} {As : List Value}  {h1' : XH} {n1 sl1 : Nat} {host : String} (d : decode cc pc = .ok (.invokestatic index, 3)) (hM : XM X.1.2.1 y bytes maxL rt fr1 lo1 (As) h n sl none h1' n1 sl1) (hD : XD y bytes maxL rt np) (hl : Cond.methodLinkNest own index y host ∈ nestG) (hS : Cond.static y ∈ tblG) (hlen : As.length = np) (h8 : (st.map fun v => v.category).sum ≤ 8) (hfr : fr1 + 1 ≤ fr) (hlo : 8 + (maxL + 11) + lo1 ≤ lo) (hm : n ≤ n1 ∧ sl ≤ sl1) (hc : XN X n1 sl1) (kk : XW X (pc + 3) L st h1' n1 sl1) : XW X pc L (As.reverse ++ st) h n sl := xw_callSN C d hM hD hl hS hlen h8 hfr hlo hm hc kk
theorem xw_callSN1 {X : XCtx} {own : String} {cc : ByteArray} {nL : Nat} {nm : String} {ret : Option FieldType} {fr lo : Nat} (C : XOK X own cc nL nm ret fr lo) {pc : Nat} {L : List (Option Value)} {st : List Value} {h : XH} {n sl : Nat} {y : MethodName} {bytes : ByteArray} {maxL np fr1 lo1 index : Nat} {rt : Option FieldType} {As : List Value} {v1 : Value} {h1' : XH} {n1 sl1 : Nat} {host : String} (d : decode cc pc = .ok (.invokestatic index, 3)) (hM : XM X.1.2.1 y bytes maxL rt fr1 lo1 (As) h n sl (some v1) h1' n1 sl1) (hD : XD y bytes maxL rt np) (hl : Cond.methodLinkNest own index y host ∈ nestG) (hS : Cond.static y ∈ tblG) (hlen : As.length = np) (h8 : (st.map fun v => v.category).sum ≤ 8) (hfr : fr1 + 1 ≤ fr) (hlo : 8 + (maxL + 11) + lo1 ≤ lo) (hm : n ≤ n1 ∧ sl ≤ sl1) (hc : XN X n1 sl1) (kk : XW X (pc + 3) L (v1 :: st) h1' n1 sl1) : XW X pc L (As.reverse ++ st) h n sl := xw_callSN C d hM hD hl hS hlen h8 hfr hlo hm hc kk
theorem xw_callIN0 {X : XCtx} {own : String} {cc : ByteArray} {nL : Nat} {nm : String} {ret : Option FieldType} {fr lo : Nat} (C : XOK X own cc nL nm ret fr lo) {pc : Nat} {L : List (Option Value)} {st : List Value} {h : XH} {n sl : Nat} {y : MethodName} {bytes : ByteArray} {maxL np fr1 lo1 index : Nat} {As : List Value}  {h1' : XH} {n1 sl1 : Nat} {a : Nat} {host : String} (d : decode cc pc = .ok (.invokespecial index, 3)) (hM : XM X.1.2.1 y bytes maxL none fr1 lo1 (.ref a :: As) h n sl none h1' n1 sl1) (hD : XD y bytes maxL none np) (hl : Cond.methodLinkNest own index y host ∈ nestG) (hI : Cond.instanceMethod y ∈ tblG) (hy1 : y.name = "<init>") (hlen : As.length = np) (h8 : (st.map fun v => v.category).sum ≤ 8) (hfr : fr1 + 1 ≤ fr) (hlo : 8 + (maxL + 11) + lo1 ≤ lo) (hm : n ≤ n1 ∧ sl ≤ sl1) (hc : XN X n1 sl1) (kk : XW X (pc + 3) L st h1' n1 sl1) : XW X pc L (As.reverse ++ .ref a :: st) h n sl := xw_callIN C d hM hD hl hI hy1 hlen h8 hfr hlo hm hc kk
theorem xif_n {c : Prop} [Decidable c] {α : Type} {b : Option α} {o : α} (hm : (if c then none else b) = some o) : ¬ c ∧ b = some o := by
  by_cases q : c
  · rw [if_pos q] at hm; cases hm
  · rw [if_neg q] at hm; exact ⟨q, hm⟩
theorem xlet_ex {α β : Type} {a : α} {f : α → Option β} {y : β} (h : xlet a f = some y) : ∃ z, z = a ∧ f z = some y := ⟨a, rfl, h⟩
theorem xw_topI {X : XCtx} {pc : Nat} {L : List (Option Value)} {st : List Value} {h : XH} {n sl : Nat} {x y : Int32} (e : y = x) (kk : XW X pc L (.int y :: st) h n sl) : XW X pc L (.int x :: st) h n sl := e ▸ kk
theorem xw_topJ {X : XCtx} {pc : Nat} {L : List (Option Value)} {st : List Value} {h : XH} {n sl : Nat} {x y : Int64} (e : y = x) (kk : XW X pc L (.long y :: st) h n sl) : XW X pc L (.long x :: st) h n sl := e ▸ kk
def xqc {β : Type} (x : Option Nat) (a : Option β) (f : Nat → Option β) : Option β := match x with
  | none => a
  | some k => f k
theorem xqc_n {β : Type} {x : Option Nat} {a : Option β} {f : Nat → Option β} {o : β} (q : x = none) (h : xqc x a f = some o) : a = some o := by subst q; exact h
theorem xqc_s {β : Type} {x : Option Nat} {a : Option β} {f : Nat → Option β} {o : β} {k : Nat} (q : x = some k) (h : xqc x a f = some o) : f k = some o := by subst q; exact h
def xnw (h : XH) (n : Nat) (e : XE) : Option XH := some (xup h n e)
theorem xw_newIB {X : XCtx} {own : String} {cc : ByteArray} {nL : Nat} {nm : String} {ret : Option FieldType} {fr lo : Nat} (C : XOK X own cc nL nm ret fr lo) {pc : Nat} {L : List (Option Value)} {st : List Value} {h : XH} {n sl : Nat} {i : Int32} {N : Nat} {h2 : XH} (d : decode cc pc = .ok (.newarray .int, 2)) (ha : Cond.arrayClass .int ∈ tblG) (hn : ¬ i < 0) (hN : i.toNatClampNeg = N) (hsm : N ≤ 100000) (hc : XN X (n + 1) (sl + N)) (q : xnw h n (.inr (0, N, .inl (fun _ => 0))) = some h2) (kk : XW X (pc + 2) L (.ref n :: st) h2 (n + 1) (sl + N)) : XW X pc L (.int i :: st) h n sl := by
  obtain rfl := Option.some.inj q
  exact xw_newI C d ha hn hN hsm hc kk
theorem xw_newZB {X : XCtx} {own : String} {cc : ByteArray} {nL : Nat} {nm : String} {ret : Option FieldType} {fr lo : Nat} (C : XOK X own cc nL nm ret fr lo) {pc : Nat} {L : List (Option Value)} {st : List Value} {h : XH} {n sl : Nat} {i : Int32} {N : Nat} {h2 : XH} (d : decode cc pc = .ok (.newarray .boolean, 2)) (ha : Cond.arrayClass .boolean ∈ tblG) (hn : ¬ i < 0) (hN : i.toNatClampNeg = N) (hsm : N ≤ 100000) (hc : XN X (n + 1) (sl + N)) (q : xnw h n (.inr (1, N, .inl (fun _ => 0))) = some h2) (kk : XW X (pc + 2) L (.ref n :: st) h2 (n + 1) (sl + N)) : XW X pc L (.int i :: st) h n sl := by
  obtain rfl := Option.some.inj q
  exact xw_newZ C d ha hn hN hsm hc kk
theorem xw_newQB {X : XCtx} {own : String} {cc : ByteArray} {nL : Nat} {nm : String} {ret : Option FieldType} {fr lo : Nat} (C : XOK X own cc nL nm ret fr lo) {pc : Nat} {L : List (Option Value)} {st : List Value} {h : XH} {n sl : Nat} {index : Nat} {i : Int32} {N : Nat} {h2 : XH} (d : decode cc pc = .ok (.anewarray index, 3)) (ha : Cond.classLink own index RX5 ∈ tblG) (hn : ¬ i < 0) (hN : i.toNatClampNeg = N) (hsm : N ≤ 100000) (hc : XN X (n + 1) (sl + N)) (q : xnw h n (.inr (2, N, .inr (.inr (.inr (.inr (fun _ => none)))))) = some h2) (kk : XW X (pc + 3) L (.ref n :: st) h2 (n + 1) (sl + N)) : XW X pc L (.int i :: st) h n sl := by
  obtain rfl := Option.some.inj q
  exact xw_newQ C d ha hn hN hsm hc kk
theorem xw_newB {X : XCtx} {own : String} {cc : ByteArray} {nL : Nat} {nm : String} {ret : Option FieldType} {fr lo : Nat} (C : XOK X own cc nL nm ret fr lo) {pc : Nat} {L : List (Option Value)} {st : List Value} {h : XH} {n sl : Nat} {index ci N : Nat} {Cn : String} {fs : List Value} {h2 : XH} (d : decode cc pc = .ok (.new index, 3)) (ha : Cond.classLink own index Cn ∈ tblG) (hN : XNw ci Cn N fs) (hc : XN X (n + 1) (sl + N)) (q : xnw h n (.inl (ci, fs)) = some h2) (kk : XW X (pc + 3) L (.ref n :: st) h2 (n + 1) (sl + N)) : XW X pc L st h n sl := by
  obtain rfl := Option.some.inj q
  exact xw_new C d ha hN hc kk
def xmmax (x y : Int32) : Int32 := if x < y then y else x
def xmabs (x : Int32) : Int32 := if 0 ≤ x then x else 0 - x
theorem xw_mmax {X : XCtx} {own : String} {cc : ByteArray} {nL : Nat} {nm : String} {ret : Option FieldType} {fr lo : Nat} (C : XOK X own cc nL nm ret fr lo) {pc : Nat} {L : List (Option Value)} {st : List Value} {h : XH} {n sl : Nat} {x y : Int32} {index : Nat} (d : decode cc pc = .ok (.invokestatic index, 3)) (hl : Cond.methodLink own index yJ9_max_7cf53 ∈ tblG) (hS : Cond.static yJ9_max_7cf53 ∈ tblG) (hD : XD yJ9_max_7cf53 cJ9_max_7cf53 2 (some .int) 2) (hfr : 1 ≤ fr) (hlo : (st.map fun v => v.category).sum + 13 ≤ lo) (hN : XN X n sl) (kk : XW X (pc + 3) L (.int (xmmax x y) :: st) h n sl) : XW X pc L (.int y :: .int x :: st) h n sl := by
  obtain ⟨⟨p, l, e, R⟩, ⟨s, m, args, below⟩, ⟨meth, c⟩, ⟨D, aT, B⟩, ⟨n0, sl0⟩, ⟨nC, sC⟩, Qx⟩ := X
  obtain ⟨hx, hb, hml, hr, hlk, hown, hnm, hts, hK, hF, hL, hRc, hRs, hB⟩ := C
  intro H locs ls kc z h1 h2 h3 h4 h5 h6
  dsimp only [XN] at hN
  have hs : ((st.map (xv B)).map fun v => v.category).sum = (st.map fun v => v.category).sum := by
    rw [List.map_map]
    congr 2
    funext v
    exact xv_cat B v
  exact va_mmax (ls := ls) (rest := st.map (xv B)) hx hb h1.1.symm hown (hts _ hl) (hts _ hS) (hts _ hD.2.1) (hts _ hD.1) (by rw [hF]; exact hfr) (by rw [hL, hs]; exact hlo) (by rw [hRc]; omega) (by rw [hRs]; omega) d (kk H locs ls kc z h1 h2 h3 h4 h5 h6)
theorem xw_mabs {X : XCtx} {own : String} {cc : ByteArray} {nL : Nat} {nm : String} {ret : Option FieldType} {fr lo : Nat} (C : XOK X own cc nL nm ret fr lo) {pc : Nat} {L : List (Option Value)} {st : List Value} {h : XH} {n sl : Nat} {x : Int32} {index : Nat} (d : decode cc pc = .ok (.invokestatic index, 3)) (hl : Cond.methodLink own index yJ9_abs_0f7a4 ∈ tblG) (hS : Cond.static yJ9_abs_0f7a4 ∈ tblG) (hD : XD yJ9_abs_0f7a4 cJ9_abs_0f7a4 1 (some .int) 1) (hfr : 1 ≤ fr) (hlo : (st.map fun v => v.category).sum + 13 ≤ lo) (hN : XN X n sl) (kk : XW X (pc + 3) L (.int (xmabs x) :: st) h n sl) : XW X pc L (.int x :: st) h n sl := by
  obtain ⟨⟨p, l, e, R⟩, ⟨s, m, args, below⟩, ⟨meth, c⟩, ⟨D, aT, B⟩, ⟨n0, sl0⟩, ⟨nC, sC⟩, Qx⟩ := X
  obtain ⟨hx, hb, hml, hr, hlk, hown, hnm, hts, hK, hF, hL, hRc, hRs, hB⟩ := C
  intro H locs ls kc z h1 h2 h3 h4 h5 h6
  dsimp only [XN] at hN
  have hs : ((st.map (xv B)).map fun v => v.category).sum = (st.map fun v => v.category).sum := by
    rw [List.map_map]
    congr 2
    funext v
    exact xv_cat B v
  exact va_mabs (ls := ls) (rest := st.map (xv B)) hx hb h1.1.symm hown (hts _ hl) (hts _ hS) (hts _ hD.2.1) (hts _ hD.1) (by rw [hF]; exact hfr) (by rw [hL, hs]; exact hlo) (by rw [hRc]; omega) (by rw [hRs]; omega) d (kk H locs ls kc z h1 h2 h3 h4 h5 h6)
def xsc (N0 : Nat) (xs : Nat → Int32) (i : Int32) : Option Int32 := if ¬ (i < 0 ∨ N0 ≤ i.toNatClampNeg) then some (xs i.toNatClampNeg) else none
/-- the law's script, as the context has it -/
def XSc (X : XCtx) (b N0 : Nat) (xs : Nat → Int32) : Prop := match X with
  | (_, (s, _, _, _), _, (_, _, B), _, _, _) => va_X b N0 xs s s.heap ∧ b < s.heap.size ∧ ¬ B ≤ b
theorem xw_aload_nS {X : XCtx} {own : String} {cc : ByteArray} {nL : Nat} {nm : String} {ret : Option FieldType} {fr lo : Nat} (C : XOK X own cc nL nm ret fr lo) {pc : Nat} {L : List (Option Value)} {st : List Value} {h : XH} {n sl : Nat} {k : Fin 4} {i x : Nat} (d : decode cc pc = .ok (.aload_n k, 1)) (hk : (k : Nat) = i) (hi : L[i]? = some (some (.retAddr x))) (kk : XW X (pc + 1) L (.retAddr x :: st) h n sl) : XW X pc L st h n sl := by
  obtain ⟨⟨p, l, e, R⟩, ⟨s, m, args, below⟩, ⟨meth, c⟩, ⟨D, aT, B⟩, ⟨n0, sl0⟩, ⟨nC, sC⟩, Qx⟩ := X
  obtain ⟨hx, hb, hml, hr, hlk, hown, hnm, hts, hK, hF, hL, hRc, hRs, hB⟩ := C
  intro H locs ls kc z h1 h2 h3 h4 h5 h6
  exact lv_aload_n hx hb d hk (h1.at hi) (kk H locs ls kc z h1 h2 h3 h4 h5 h6)
theorem xw_siaload {X : XCtx} {own : String} {cc : ByteArray} {nL : Nat} {nm : String} {ret : Option FieldType} {fr lo : Nat} (C : XOK X own cc nL nm ret fr lo) {pc : Nat} {L : List (Option Value)} {st : List Value} {h : XH} {n sl : Nat} {b N0 : Nat} {xs : Nat → Int32} {i v : Int32} (d : decode cc pc = .ok (.iaload, 1)) (hS : XSc X b N0 xs) (q : xsc N0 xs i = some v) (kk : XW X (pc + 1) L (.int v :: st) h n sl) : XW X pc L (.int i :: .retAddr b :: st) h n sl := by
  obtain ⟨⟨p, l, e, R⟩, ⟨s, m, args, below⟩, ⟨meth, c⟩, ⟨D, aT, B⟩, ⟨n0, sl0⟩, ⟨nC, sC⟩, Qx⟩ := X
  obtain ⟨hx, hb, hml, hr, hlk, hown, hnm, hts, hK, hF, hL, hRc, hRs, hB⟩ := C
  intro H locs ls kc z h1 h2 h3 h4 h5 h6
  obtain ⟨s1, s2, s3⟩ := hS
  unfold xsc at q
  by_cases hc : ¬ (i < 0 ∨ N0 ≤ i.toNatClampNeg)
  · rw [if_pos hc] at q
    obtain rfl := Option.some.inj q
    exact va_sld hx hb s1 s2 s3 h4 hc d (kk H locs ls kc z h1 h2 h3 h4 h5 h6)
  · rw [if_neg hc] at q; cases q
theorem xw_salen {X : XCtx} {own : String} {cc : ByteArray} {nL : Nat} {nm : String} {ret : Option FieldType} {fr lo : Nat} (C : XOK X own cc nL nm ret fr lo) {pc : Nat} {L : List (Option Value)} {st : List Value} {h : XH} {n sl : Nat} {b N0 : Nat} {xs : Nat → Int32} (d : decode cc pc = .ok (.arraylength, 1)) (hS : XSc X b N0 xs) (kk : XW X (pc + 1) L (.int (Int32.ofNat N0) :: st) h n sl) : XW X pc L (.retAddr b :: st) h n sl := by
  obtain ⟨⟨p, l, e, R⟩, ⟨s, m, args, below⟩, ⟨meth, c⟩, ⟨D, aT, B⟩, ⟨n0, sl0⟩, ⟨nC, sC⟩, Qx⟩ := X
  obtain ⟨hx, hb, hml, hr, hlk, hown, hnm, hts, hK, hF, hL, hRc, hRs, hB⟩ := C
  intro H locs ls kc z h1 h2 h3 h4 h5 h6
  obtain ⟨s1, s2, s3⟩ := hS
  exact va_slen hx hb s1 s2 s3 h4 d (kk H locs ls kc z h1 h2 h3 h4 h5 h6)
end
section
def fJ13_bitCount_95d88 (x0 : Int64) : Option Int32 :=
xlet (x0 - ((xlushr x0 (1 : Int32)) &&& (6148914691236517205 : Int64))) fun y1 =>
xlet ((y1 &&& (3689348814741910323 : Int64)) + ((xlushr y1 (2 : Int32)) &&& (3689348814741910323 : Int64))) fun y2 =>
xlet ((y2 + (xlushr y2 (4 : Int32))) &&& (1085102592571150095 : Int64)) fun y3 =>
xlet (y3 + (xlushr y3 (8 : Int32))) fun y4 =>
xlet (y4 + (xlushr y4 (16 : Int32))) fun y5 =>
xlet (y5 + (xlushr y5 (32 : Int32))) fun y6 =>
some ((y6.toInt32) &&& (127 : Int32))
def fJ6_bitCount_0f7a4 (x0 : Int32) : Option Int32 :=
xlet (x0 - ((xushr x0 (1 : Int32)) &&& (1431655765 : Int32))) fun y1 =>
xlet ((y1 &&& (858993459 : Int32)) + ((xushr y1 (2 : Int32)) &&& (858993459 : Int32))) fun y2 =>
xlet ((y2 + (xushr y2 (4 : Int32))) &&& (252645135 : Int32)) fun y3 =>
xlet (y3 + (xushr y3 (8 : Int32))) fun y4 =>
xlet (y4 + (xushr y4 (16 : Int32))) fun y5 =>
some (y5 &&& (63 : Int32))
def fX8_hasBit (x0 : Int64) (x2 : Int32) : Option Bool :=
if (lg_cmp ((xlushr x0 x2) &&& (1 : Int64)) (1 : Int64)) = 0 then
some true
else
some false
def fX8_mod (x0 : Int32) (x1 : Int32) : Option Int32 :=
if 0 < x1 then
if x1 = 0 then none else
if 0 ≤ (xrem x0 x1) then
some (xrem x0 x1)
else
some ((xrem x0 x1) + x1)
else
some (0 : Int32)
def fX0_has (h : XH) (x0 : Nat) (x1 : Int32) : Option Bool :=
(xgJ h x0 0 4).bind fun v1 =>
(xgI h x0 0 2).bind fun v3 =>
(fX8_mod x1 v3).bind fun v5 =>
(fX8_hasBit v1 v5).bind fun v7 =>
some v7
def fX8_at (h : XH) (x0 : Nat) (x1 : Int32) : Option Int32 :=
if x1 < 0 then
some (0 : Int32)
else
(xln h x0).bind fun v1 =>
if v1 ≤ x1 then
some (0 : Int32)
else
(xaI h x0 0 x1).bind fun v3 =>
some v3
def fX8_put (h : XH) (x0 : Nat) (x1 : Int32) (x2 : Int32) : Option XH :=
if x1 < 0 then
some h
else
(xln h x0).bind fun v1 =>
if v1 ≤ x1 then
some h
else
(xsI h x0 0 x1 x2).bind fun h3 =>
some h3
def fX0_countByRemainder_b2 (x0 : Nat) (h : XH) (x1 : Int32) : Option ((XH × Int32) ⊕ XH) :=
(xgI h x0 0 2).bind fun v1 =>
if v1 ≤ x1 then
some (.inr h)
else
(xgR h x0 0 0).bind fun v3 =>
(fX8_put h v3 x1 (0 : Int32)).bind fun h5 =>
some (.inl (h5, (x1 + (1 : Int32))))
def fX0_countByRemainder_B2 (x0 : Nat) (s : (XH × Int32)) : Option ((XH × Int32) ⊕ XH) := fX0_countByRemainder_b2 x0 s.1 s.2
def fX0_countByRemainder_b31 (x0 : Nat) (h : XH) (x1 : Int32) : Option ((XH × Int32) ⊕ XH) :=
(xgI h x0 0 3).bind fun v11 =>
if v11 < x1 then
some (.inr h)
else
(xgI h x0 0 2).bind fun v13 =>
(fX8_mod x1 v13).bind fun v15 =>
(xco h x0 0).bind fun _ =>
(fX0_has h x0 x1).bind fun v18 =>
if v18 = true then
(xgR h x0 0 0).bind fun v20 =>
(xgR h x0 0 0).bind fun v22 =>
(fX8_at h v22 v15).bind fun v24 =>
(fX8_put h v20 v15 (v24 + (1 : Int32))).bind fun h26 =>
some (.inl (h26, (x1 + (1 : Int32))))
else
some (.inl (h, (x1 + (1 : Int32))))
def fX0_countByRemainder_B31 (x0 : Nat) (s : (XH × Int32)) : Option ((XH × Int32) ⊕ XH) := fX0_countByRemainder_b31 x0 s.1 s.2
def fX0_countByRemainder (h : XH) (x0 : Nat) : Option XH :=
(xloop (fX0_countByRemainder_B2 x0) 5000 (h, (0 : Int32))).bind fun e7 =>
(xgI e7 x0 0 3).bind fun v9 =>
(xloop (fX0_countByRemainder_B31 x0) 5000 (e7, (-v9))).bind fun e28 =>
some e28
def fX4_allFit_b3 (h : XH) (x0 : Nat) (x1 : Int32) (x2 : Int32) (x3 : Int32) (x4 : Int32) : Option (Int32 ⊕ (Unit ⊕ Unit)) :=
(xgI h x0 4 2).bind fun v1 =>
if v1 ≤ x4 then
some (.inr (.inr ()))
else
if x4 = x3 then
some (.inl (x4 + (1 : Int32)))
else
(xgR h x0 4 0).bind fun v3 =>
(fX8_at h v3 x4).bind fun v5 =>
(xgR h x0 4 1).bind fun v7 =>
(fX8_at h v7 x4).bind fun v9 =>
(fX8_mod ((x1 * v5) - v9) x2).bind fun v11 =>
if v11 = 0 then
some (.inl (x4 + (1 : Int32)))
else
some (.inr (.inl ()))
def fX4_allFit_B3 (h : XH) (x0 : Nat) (x1 : Int32) (x2 : Int32) (x3 : Int32) (s : Int32) : Option (Int32 ⊕ (Unit ⊕ Unit)) := fX4_allFit_b3 h x0 x1 x2 x3 s
def fX4_allFit (h : XH) (x0 : Nat) (x1 : Int32) (x2 : Int32) (x3 : Int32) : Option Bool :=
(xloop (fX4_allFit_B3 h x0 x1 x2 x3) 5000 (0 : Int32)).bind fun e13 =>
(match e13 with
| .inl e13 =>
some false
| .inr e13 =>
some true
)
def fX0_find_b21 (x0 : Nat) (x2 : Nat) (x3 : Int32) (h : XH) (x4 : Int32) : Option ((XH × Int32) ⊕ XH) :=
(xgI h x0 0 2).bind fun v9 =>
if v9 ≤ x4 then
some (.inr h)
else
(xgI h x0 0 2).bind fun v11 =>
(xco h x2 4).bind fun _ =>
(fX4_allFit h x2 x4 v11 x3).bind fun v14 =>
if v14 = true then
(xgJ h x0 0 4).bind fun v16 =>
(xpf h x0 0 4 (.long (v16 ||| (xlshl (1 : Int64) x4)))).bind fun h18 =>
some (.inl (h18, (x4 + (1 : Int32))))
else
some (.inl (h, (x4 + (1 : Int32))))
def fX0_find_B21 (x0 : Nat) (x2 : Nat) (x3 : Int32) (s : (XH × Int32)) : Option ((XH × Int32) ⊕ XH) := fX0_find_b21 x0 x2 x3 s.1 s.2
def fX0_find (h : XH) (x0 : Nat) (x1 : Int32) (x2 : Nat) (x3 : Int32) : Option XH :=
(xpf h x0 0 2 (.int x1)).bind fun h1 =>
(xgI h1 x2 4 3).bind fun v3 =>
(xpf h1 x0 0 3 (.int v3)).bind fun h5 =>
(xpf h5 x0 0 4 (.long (0 : Int64))).bind fun h7 =>
(xloop (fX0_find_B21 x0 x2 x3) 5000 (h7, (0 : Int32))).bind fun e20 =>
some e20
def fX0_inOrder_b8 (h : XH) (x0 : Nat) (x1 : Int32) (x2 : Int32) (x3 : Int32) : Option ((Int32 × Int32) ⊕ (Int32 ⊕ Unit)) :=
(xgI h x0 0 3).bind fun v3 =>
if v3 < x3 then
some (.inr (.inr ()))
else
(xco h x0 0).bind fun _ =>
(fX0_has h x0 x3).bind fun v6 =>
if v6 = true then
if x2 = x1 then
some (.inr (.inl x3))
else
some (.inl ((x2 + (1 : Int32)), (x3 + (1 : Int32))))
else
some (.inl (x2, (x3 + (1 : Int32))))
def fX0_inOrder_B8 (h : XH) (x0 : Nat) (x1 : Int32) (s : (Int32 × Int32)) : Option ((Int32 × Int32) ⊕ (Int32 ⊕ Unit)) := fX0_inOrder_b8 h x0 x1 s.1 s.2
def fX0_inOrder (h : XH) (x0 : Nat) (x1 : Int32) : Option Int32 :=
(xgI h x0 0 3).bind fun v1 =>
(xloop (fX0_inOrder_B8 h x0 x1) 5000 ((0 : Int32), (-v1))).bind fun e8 =>
(match e8 with
| .inl e8 =>
some e8
| .inr e8 =>
some (-1004 : Int32)
)
def fX0_init (h : XH) (n : Nat) (x0 : Nat) : Option XH :=
(xnw h n (.inr (0, 60, .inl (fun _ => 0)))).bind fun h1 =>
(xpf h1 x0 0 0 (.ref n)).bind fun h3 =>
(xnw h3 (n + 1) (.inr (0, 60, .inl (fun _ => 0)))).bind fun h5 =>
(xpf h5 x0 0 1 (.ref (n + 1))).bind fun h7 =>
some h7
def fX0_nearestTo_b14 (h : XH) (x0 : Nat) (x1 : Int32) (x2 : Int32) (x3 : Int32) (x4 : Int32) : Option ((Int32 × Int32 × Int32) ⊕ Int32) :=
(xgI h x0 0 3).bind fun v3 =>
if v3 < x4 then
some (.inr x2)
else
if x3 ≤ (xmabs (x4 - x1)) then
some (.inl (x2, x3, (x4 + (1 : Int32))))
else
(xco h x0 0).bind fun _ =>
(fX0_has h x0 x4).bind fun v6 =>
if v6 = true then
some (.inl (x4, (xmabs (x4 - x1)), (x4 + (1 : Int32))))
else
some (.inl (x2, x3, (x4 + (1 : Int32))))
def fX0_nearestTo_B14 (h : XH) (x0 : Nat) (x1 : Int32) (s : (Int32 × Int32 × Int32)) : Option ((Int32 × Int32 × Int32) ⊕ Int32) := fX0_nearestTo_b14 h x0 x1 s.1 s.2.1 s.2.2
def fX0_nearestTo (h : XH) (x0 : Nat) (x1 : Int32) : Option Int32 :=
(xgI h x0 0 3).bind fun v1 =>
(xloop (fX0_nearestTo_B14 h x0 x1) 5000 ((-1004 : Int32), (2147483647 : Int32), (-v1))).bind fun e8 =>
some e8
def fX0_number_b8 (h : XH) (x0 : Nat) (x1 : Int32) (x2 : Int32) : Option ((Int32 × Int32) ⊕ Int32) :=
(xgI h x0 0 3).bind fun v3 =>
if v3 < x2 then
some (.inr x1)
else
(xco h x0 0).bind fun _ =>
(fX0_has h x0 x2).bind fun v6 =>
if v6 = true then
some (.inl ((x1 + (1 : Int32)), (x2 + (1 : Int32))))
else
some (.inl (x1, (x2 + (1 : Int32))))
def fX0_number_B8 (h : XH) (x0 : Nat) (s : (Int32 × Int32)) : Option ((Int32 × Int32) ⊕ Int32) := fX0_number_b8 h x0 s.1 s.2
def fX0_number (h : XH) (x0 : Nat) : Option Int32 :=
(xgI h x0 0 3).bind fun v1 =>
(xloop (fX0_number_B8 h x0) 5000 ((0 : Int32), (-v1))).bind fun e8 =>
some e8
def fX0_restOf_b2 (x0 : Nat) (x1 : Int32) (h : XH) (x2 : Int32) : Option ((XH × Int32) ⊕ XH) :=
(xgI h x0 0 2).bind fun v1 =>
if v1 ≤ x2 then
some (.inr h)
else
(xgR h x0 0 1).bind fun v3 =>
(fX8_put h v3 x2 (0 : Int32)).bind fun h5 =>
some (.inl (h5, (x2 + (1 : Int32))))
def fX0_restOf_B2 (x0 : Nat) (x1 : Int32) (s : (XH × Int32)) : Option ((XH × Int32) ⊕ XH) := fX0_restOf_b2 x0 x1 s.1 s.2
def fX0_restOf_b29 (x0 : Nat) (x1 : Int32) (h : XH) (x2 : Int32) (x3 : Int32) : Option ((XH × Int32 × Int32) ⊕ (XH × Int32)) :=
(xgI h x0 0 2).bind fun v9 =>
if v9 ≤ x3 then
some (.inr (h, x2))
else
(xgI h x0 0 2).bind fun v11 =>
(fX8_mod (x3 * x1) v11).bind fun v13 =>
(xgR h x0 0 1).bind fun v15 =>
(xgR h x0 0 1).bind fun v17 =>
(fX8_at h v17 v13).bind fun v19 =>
(xgR h x0 0 0).bind fun v21 =>
(fX8_at h v21 x3).bind fun v23 =>
(fX8_put h v15 v13 (v19 + v23)).bind fun h25 =>
(xgR h25 x0 0 1).bind fun v27 =>
(fX8_at h25 v27 v13).bind fun v29 =>
some (.inl (h25, (xmmax x2 v29), (x3 + (1 : Int32))))
def fX0_restOf_B29 (x0 : Nat) (x1 : Int32) (s : (XH × Int32 × Int32)) : Option ((XH × Int32 × Int32) ⊕ (XH × Int32)) := fX0_restOf_b29 x0 x1 s.1 s.2.1 s.2.2
def fX0_restOf (h : XH) (x0 : Nat) (x1 : Int32) : Option (Int32 × XH) :=
(xloop (fX0_restOf_B2 x0 x1) 5000 (h, (0 : Int32))).bind fun e7 =>
(xloop (fX0_restOf_B29 x0 x1) 5000 (e7, (0 : Int32), (0 : Int32))).bind fun e31 =>
some (e31.2, e31.1)
def fX1_copyFrom (h : XH) (x0 : Nat) (x1 : Nat) : Option XH :=
(xgI h x1 1 0).bind fun v1 =>
(xpf h x0 1 0 (.int v1)).bind fun h3 =>
(xgI h3 x1 1 1).bind fun v5 =>
(xpf h3 x0 1 1 (.int v5)).bind fun h7 =>
(xgI h7 x1 1 2).bind fun v9 =>
(xpf h7 x0 1 2 (.int v9)).bind fun h11 =>
(xgI h11 x1 1 3).bind fun v13 =>
(xpf h11 x0 1 3 (.int v13)).bind fun h15 =>
some h15
def fX1_isOpenAt (h : XH) (x0 : Nat) (x1 : Int32) : Option Bool :=
(xgI h x0 1 1).bind fun v1 =>
(xgI h x0 1 2).bind fun v3 =>
(xgI h x0 1 3).bind fun v5 =>
(xgI h x0 1 0).bind fun v7 =>
(fX8_mod (-(v3 + (v5 * x1))) v7).bind fun v9 =>
(fX8_hasBit (v1.toInt64) v9).bind fun v11 =>
some v11
def fX1_opensAt (h : XH) (x0 : Nat) (x1 : Int32) : Option Bool :=
(xco h x0 1).bind fun _ =>
(fX1_isOpenAt h x0 x1).bind fun v2 =>
if v2 = true then
if x1 = 0 then
some true
else
(xco h x0 1).bind fun _ =>
(fX1_isOpenAt h x0 (x1 - (1 : Int32))).bind fun v5 =>
if v5 = true then
some false
else
some true
else
some false
def fX1_firstTickOf_b4 (h : XH) (x0 : Nat) (x1 : Int32) (x2 : Int32) (x3 : Int32) : Option ((Int32 × Int32) ⊕ (Int32 ⊕ Unit)) :=
if (1000 : Int32) < x3 then
some (.inr (.inr ()))
else
(xco h x0 1).bind fun _ =>
(fX1_opensAt h x0 x3).bind fun v2 =>
if v2 = true then
if x2 = x1 then
some (.inr (.inl x3))
else
some (.inl ((x2 + (1 : Int32)), (x3 + (1 : Int32))))
else
some (.inl (x2, (x3 + (1 : Int32))))
def fX1_firstTickOf_B4 (h : XH) (x0 : Nat) (x1 : Int32) (s : (Int32 × Int32)) : Option ((Int32 × Int32) ⊕ (Int32 ⊕ Unit)) := fX1_firstTickOf_b4 h x0 x1 s.1 s.2
def fX1_firstTickOf (h : XH) (x0 : Nat) (x1 : Int32) : Option Int32 :=
(xloop (fX1_firstTickOf_B4 h x0 x1) 5000 ((0 : Int32), (0 : Int32))).bind fun e4 =>
(match e4 with
| .inl e4 =>
some e4
| .inr e4 =>
some (-1 : Int32)
)
def fX1_init (h : XH) (x0 : Nat) : Option XH :=
(xpf h x0 1 0 (.int (1 : Int32))).bind fun h1 =>
(xpf h1 x0 1 1 (.int (1 : Int32))).bind fun h3 =>
some h3
def fX1_openings_b4 (h : XH) (x0 : Nat) (x1 : Int32) (x2 : Int32) : Option ((Int32 × Int32) ⊕ Int32) :=
if (1000 : Int32) < x2 then
some (.inr x1)
else
(xco h x0 1).bind fun _ =>
(fX1_opensAt h x0 x2).bind fun v2 =>
if v2 = true then
some (.inl ((x1 + (1 : Int32)), (x2 + (1 : Int32))))
else
some (.inl (x1, (x2 + (1 : Int32))))
def fX1_openings_B4 (h : XH) (x0 : Nat) (s : (Int32 × Int32)) : Option ((Int32 × Int32) ⊕ Int32) := fX1_openings_b4 h x0 s.1 s.2
def fX1_openings (h : XH) (x0 : Nat) : Option Int32 :=
(xloop (fX1_openings_B4 h x0) 5000 ((0 : Int32), (0 : Int32))).bind fun e4 =>
some e4
def fX1_ticksFrom_b2 (h : XH) (x0 : Nat) (x1 : Int32) (x2 : Int32) : Option (Int32 ⊕ Int32) :=
if (1000 : Int32) < x2 then
some (.inr x2)
else
(xco h x0 1).bind fun _ =>
(fX1_isOpenAt h x0 x2).bind fun v2 =>
if v2 = true then
some (.inl (x2 + (1 : Int32)))
else
some (.inr x2)
def fX1_ticksFrom_B2 (h : XH) (x0 : Nat) (x1 : Int32) (s : Int32) : Option (Int32 ⊕ Int32) := fX1_ticksFrom_b2 h x0 x1 s
def fX1_ticksFrom (h : XH) (x0 : Nat) (x1 : Int32) : Option Int32 :=
(xloop (fX1_ticksFrom_B2 h x0 x1) 5000 x1).bind fun e4 =>
some (e4 - x1)
def fX2_copyFrom (h : XH) (x0 : Nat) (x1 : Nat) : Option XH :=
(xgI h x1 2 0).bind fun v1 =>
(xpf h x0 2 0 (.int v1)).bind fun h3 =>
(xgI h3 x1 2 1).bind fun v5 =>
(xpf h3 x0 2 1 (.int v5)).bind fun h7 =>
some h7
def fX2_init (h : XH) (x0 : Nat) : Option XH :=
(xpf h x0 2 1 (.int (1 : Int32))).bind fun h1 =>
some h1
def fX2_number (h : XH) (x0 : Nat) : Option Int32 :=
(xgI h x0 2 1).bind fun v1 =>
if v1 ≤ 0 then
some (0 : Int32)
else
(xgI h x0 2 0).bind fun v3 =>
(xgI h x0 2 1).bind fun v5 =>
if v5 = 0 then none else
some ((((1000 : Int32) - v3) / v5) + (1 : Int32))
def fX2_tickOf (h : XH) (x0 : Nat) (x1 : Int32) : Option Int32 :=
(xgI h x0 2 0).bind fun v1 =>
(xgI h x0 2 1).bind fun v3 =>
some (v1 + (x1 * v3))
def fX4_init (h : XH) (n : Nat) (x0 : Nat) : Option XH :=
(xnw h n (.inr (0, 8, .inl (fun _ => 0)))).bind fun h1 =>
(xpf h1 x0 4 0 (.ref n)).bind fun h3 =>
(xnw h3 (n + 1) (.inr (0, 8, .inl (fun _ => 0)))).bind fun h5 =>
(xpf h5 x0 4 1 (.ref (n + 1))).bind fun h7 =>
(xpf h7 x0 4 3 (.int (100 : Int32))).bind fun h9 =>
some h9
def fX6_init_b34 (x0 : Nat) (h : XH) (x1 : Int32) : Option ((XH × Int32) ⊕ XH) :=
(xgI h x0 6 3).bind fun v15 =>
if v15 ≤ x1 then
some (.inr h)
else
(xgR h x0 6 0).bind fun v17 =>
(fX8_put h v17 x1 (1 : Int32)).bind fun h19 =>
some (.inl (h19, (x1 + (3 : Int32))))
def fX6_init_B34 (x0 : Nat) (s : (XH × Int32)) : Option ((XH × Int32) ⊕ XH) := fX6_init_b34 x0 s.1 s.2
def fX6_init (h : XH) (n : Nat) (x0 : Nat) : Option XH :=
(xnw h n (.inr (0, 60, .inl (fun _ => 0)))).bind fun h1 =>
(xpf h1 x0 6 0 (.ref n)).bind fun h3 =>
(xnw h3 (n + 1) (.inr (0, 5, .inl (fun _ => 0)))).bind fun h5 =>
(xpf h5 x0 6 1 (.ref (n + 1))).bind fun h7 =>
(xnw h7 (n + 2) (.inr (0, 5, .inl (fun _ => 0)))).bind fun h9 =>
(xpf h9 x0 6 2 (.ref (n + 2))).bind fun h11 =>
(xpf h11 x0 6 3 (.int (12 : Int32))).bind fun h13 =>
(xloop (fX6_init_B34 x0) 5000 (h13, (0 : Int32))).bind fun e21 =>
some e21
def fX5_init (h : XH) (n : Nat) (x0 : Nat) : Option XH :=
(xnw h n (.inl (6, [.null, .null, .null, .int 0, .int 0, .int 0, .int 0]))).bind fun h1 =>
(fX6_init h1 (n + 1) n).bind fun h3 =>
(xpf h3 x0 5 0 (.ref n)).bind fun h5 =>
(xnw h5 (n + 4) (.inl (2, [.int 0, .int 0]))).bind fun h7 =>
(fX2_init h7 (n + 4)).bind fun h9 =>
(xpf h9 x0 5 1 (.ref (n + 4))).bind fun h11 =>
(xnw h11 (n + 5) (.inl (4, [.null, .null, .int 0, .int 0]))).bind fun h13 =>
(fX4_init h13 (n + 6) (n + 5)).bind fun h15 =>
(xpf h15 x0 5 2 (.ref (n + 5))).bind fun h17 =>
(xnw h17 (n + 8) (.inl (1, [.int 0, .int 0, .int 0, .int 0]))).bind fun h19 =>
(fX1_init h19 (n + 8)).bind fun h21 =>
(xpf h21 x0 5 3 (.ref (n + 8))).bind fun h23 =>
some h23
def fX3_init (h : XH) (n : Nat) (x0 : Nat) : Option XH :=
(xnw h n (.inr (2, 8, .inr (.inr (.inr (.inr (fun _ => none))))))).bind fun h1 =>
(xpf h1 x0 3 0 (.ref n)).bind fun h3 =>
(xgR h3 x0 3 0).bind fun v5 =>
(xln h3 v5).bind fun v7 =>
if v7 ≤ (0 : Int32) then
none
else
(xgR h3 x0 3 0).bind fun v9 =>
(xnw h3 (n + 1) (.inl (5, [.null, .null, .null, .null]))).bind fun h11 =>
(fX5_init h11 (n + 2) (n + 1)).bind fun h13 =>
(xsQ h13 v9 (0 : Int32) (n + 1)).bind fun h15 =>
(xgR h15 x0 3 0).bind fun v17 =>
(xln h15 v17).bind fun v19 =>
if v19 ≤ (1 : Int32) then
none
else
(xgR h15 x0 3 0).bind fun v21 =>
(xnw h15 (n + 11) (.inl (5, [.null, .null, .null, .null]))).bind fun h23 =>
(fX5_init h23 (n + 12) (n + 11)).bind fun h25 =>
(xsQ h25 v21 (1 : Int32) (n + 11)).bind fun h27 =>
(xgR h27 x0 3 0).bind fun v29 =>
(xln h27 v29).bind fun v31 =>
if v31 ≤ (2 : Int32) then
none
else
(xgR h27 x0 3 0).bind fun v33 =>
(xnw h27 (n + 21) (.inl (5, [.null, .null, .null, .null]))).bind fun h35 =>
(fX5_init h35 (n + 22) (n + 21)).bind fun h37 =>
(xsQ h37 v33 (2 : Int32) (n + 21)).bind fun h39 =>
(xgR h39 x0 3 0).bind fun v41 =>
(xln h39 v41).bind fun v43 =>
if v43 ≤ (3 : Int32) then
none
else
(xgR h39 x0 3 0).bind fun v45 =>
(xnw h39 (n + 31) (.inl (5, [.null, .null, .null, .null]))).bind fun h47 =>
(fX5_init h47 (n + 32) (n + 31)).bind fun h49 =>
(xsQ h49 v45 (3 : Int32) (n + 31)).bind fun h51 =>
(xgR h51 x0 3 0).bind fun v53 =>
(xln h51 v53).bind fun v55 =>
if v55 ≤ (4 : Int32) then
none
else
(xgR h51 x0 3 0).bind fun v57 =>
(xnw h51 (n + 41) (.inl (5, [.null, .null, .null, .null]))).bind fun h59 =>
(fX5_init h59 (n + 42) (n + 41)).bind fun h61 =>
(xsQ h61 v57 (4 : Int32) (n + 41)).bind fun h63 =>
(xgR h63 x0 3 0).bind fun v65 =>
(xln h63 v65).bind fun v67 =>
if v67 ≤ (5 : Int32) then
none
else
(xgR h63 x0 3 0).bind fun v69 =>
(xnw h63 (n + 51) (.inl (5, [.null, .null, .null, .null]))).bind fun h71 =>
(fX5_init h71 (n + 52) (n + 51)).bind fun h73 =>
(xsQ h73 v69 (5 : Int32) (n + 51)).bind fun h75 =>
(xgR h75 x0 3 0).bind fun v77 =>
(xln h75 v77).bind fun v79 =>
if v79 ≤ (6 : Int32) then
none
else
(xgR h75 x0 3 0).bind fun v81 =>
(xnw h75 (n + 61) (.inl (5, [.null, .null, .null, .null]))).bind fun h83 =>
(fX5_init h83 (n + 62) (n + 61)).bind fun h85 =>
(xsQ h85 v81 (6 : Int32) (n + 61)).bind fun h87 =>
(xgR h87 x0 3 0).bind fun v89 =>
(xln h87 v89).bind fun v91 =>
if v91 ≤ (7 : Int32) then
none
else
(xgR h87 x0 3 0).bind fun v93 =>
(xnw h87 (n + 71) (.inl (5, [.null, .null, .null, .null]))).bind fun h95 =>
(fX5_init h95 (n + 72) (n + 71)).bind fun h97 =>
(xsQ h97 v93 (7 : Int32) (n + 71)).bind fun h99 =>
(xgR h99 x0 3 0).bind fun v101 =>
(xln h99 v101).bind fun v103 =>
if v103 ≤ (8 : Int32) then
some h99
else
none
def fX3_slotAt (h : XH) (x0 : Nat) (x1 : Int32) : Option (Option Nat) :=
if x1 < 0 then
some none
else
(xgR h x0 3 0).bind fun v1 =>
(xln h v1).bind fun v3 =>
if v3 ≤ x1 then
some none
else
(xgR h x0 3 0).bind fun v5 =>
(xaQ h v5 x1).bind fun v7 =>
some v7
def fX8_copyRow_b2 (x0 : Nat) (x1 : Nat) (h : XH) (x2 : Int32) : Option ((XH × Int32) ⊕ XH) :=
(xln h x0).bind fun v1 =>
if v1 ≤ x2 then
some (.inr h)
else
(xln h x1).bind fun v3 =>
if v3 ≤ x2 then
some (.inr h)
else
(xaI h x0 0 x2).bind fun v5 =>
(xsI h x1 0 x2 v5).bind fun h7 =>
some (.inl (h7, (x2 + (1 : Int32))))
def fX8_copyRow_B2 (x0 : Nat) (x1 : Nat) (s : (XH × Int32)) : Option ((XH × Int32) ⊕ XH) := fX8_copyRow_b2 x0 x1 s.1 s.2
def fX8_copyRow (h : XH) (x0 : Nat) (x1 : Nat) : Option XH :=
(xloop (fX8_copyRow_B2 x0 x1) 5000 (h, (0 : Int32))).bind fun e9 =>
some e9
def fX4_copyFrom (h : XH) (x0 : Nat) (x1 : Nat) : Option XH :=
(xgR h x1 4 0).bind fun v1 =>
(xgR h x0 4 0).bind fun v3 =>
(fX8_copyRow h v1 v3).bind fun h5 =>
(xgR h5 x1 4 1).bind fun v7 =>
(xgR h5 x0 4 1).bind fun v9 =>
(fX8_copyRow h5 v7 v9).bind fun h11 =>
(xgI h11 x1 4 2).bind fun v13 =>
(xpf h11 x0 4 2 (.int v13)).bind fun h15 =>
(xgI h15 x1 4 3).bind fun v17 =>
(xpf h15 x0 4 3 (.int v17)).bind fun h19 =>
some h19
def fX6_copyFrom (h : XH) (x0 : Nat) (x1 : Nat) : Option XH :=
(xgR h x1 6 0).bind fun v1 =>
(xgR h x0 6 0).bind fun v3 =>
(fX8_copyRow h v1 v3).bind fun h5 =>
(xgR h5 x1 6 1).bind fun v7 =>
(xgR h5 x0 6 1).bind fun v9 =>
(fX8_copyRow h5 v7 v9).bind fun h11 =>
(xgR h11 x1 6 2).bind fun v13 =>
(xgR h11 x0 6 2).bind fun v15 =>
(fX8_copyRow h11 v13 v15).bind fun h17 =>
(xgI h17 x1 6 3).bind fun v19 =>
(xpf h17 x0 6 3 (.int v19)).bind fun h21 =>
(xgI h21 x1 6 4).bind fun v23 =>
(xpf h21 x0 6 4 (.int v23)).bind fun h25 =>
(xgI h25 x1 6 5).bind fun v27 =>
(xpf h25 x0 6 5 (.int v27)).bind fun h29 =>
(xgI h29 x1 6 6).bind fun v31 =>
(xpf h29 x0 6 6 (.int v31)).bind fun h33 =>
some h33
def fX5_copyFrom (h : XH) (x0 : Nat) (x1 : Nat) : Option XH :=
(xgR h x0 5 0).bind fun v1 =>
(xgR h x1 5 0).bind fun v3 =>
(xco h v1 6).bind fun _ =>
(fX6_copyFrom h v1 v3).bind fun h6 =>
(xgR h6 x0 5 1).bind fun v8 =>
(xgR h6 x1 5 1).bind fun v10 =>
(xco h6 v8 2).bind fun _ =>
(fX2_copyFrom h6 v8 v10).bind fun h13 =>
(xgR h13 x0 5 2).bind fun v15 =>
(xgR h13 x1 5 2).bind fun v17 =>
(xco h13 v15 4).bind fun _ =>
(fX4_copyFrom h13 v15 v17).bind fun h20 =>
(xgR h20 x0 5 3).bind fun v22 =>
(xgR h20 x1 5 3).bind fun v24 =>
(xco h20 v22 1).bind fun _ =>
(fX1_copyFrom h20 v22 v24).bind fun h27 =>
some h27
def fX3_remember (h : XH) (x0 : Nat) (x1 : Nat) : Option XH :=
(xgI h x0 3 1).bind fun v1 =>
(xco h x0 3).bind fun _ =>
(fX3_slotAt h x0 v1).bind fun v4 =>
xqc v4 (some h) (fun k6 =>
(xco h k6 5).bind fun _ =>
(fX5_copyFrom h k6 x1).bind fun h8 =>
(xgI h8 x0 3 1).bind fun v10 =>
(fX8_mod (v10 + (1 : Int32)) (8 : Int32)).bind fun v12 =>
(xpf h8 x0 3 1 (.int v12)).bind fun h14 =>
(xgI h14 x0 3 2).bind fun v16 =>
if (8 : Int32) ≤ v16 then
some h14
else
(xgI h14 x0 3 2).bind fun v18 =>
(xpf h14 x0 3 2 (.int (v18 + (1 : Int32)))).bind fun h20 =>
some h20)
def fX3_restore (h : XH) (x0 : Nat) (x1 : Nat) : Option XH :=
(xgI h x0 3 1).bind fun v1 =>
(fX8_mod (v1 - (1 : Int32)) (8 : Int32)).bind fun v3 =>
(xco h x0 3).bind fun _ =>
(fX3_slotAt h x0 v3).bind fun v6 =>
xqc v6 (some h) (fun k8 =>
(xgI h x0 3 2).bind fun v9 =>
if v9 = 0 then
some h
else
(xco h x1 5).bind fun _ =>
(fX5_copyFrom h x1 k8).bind fun h12 =>
(xpf h12 x0 3 1 (.int v3)).bind fun h14 =>
(xgI h14 x0 3 2).bind fun v16 =>
(xpf h14 x0 3 2 (.int (v16 - (1 : Int32)))).bind fun h18 =>
some h18)
def fX4_add (h : XH) (x0 : Nat) (x1 : Int32) (x2 : Int32) : Option XH :=
(xgR h x0 4 0).bind fun v1 =>
(xgI h x0 4 2).bind fun v3 =>
(fX8_put h v1 v3 x1).bind fun h5 =>
(xgR h5 x0 4 1).bind fun v7 =>
(xgI h5 x0 4 2).bind fun v9 =>
(fX8_put h5 v7 v9 x2).bind fun h11 =>
(xgI h11 x0 4 2).bind fun v13 =>
(xpf h11 x0 4 2 (.int (v13 + (1 : Int32)))).bind fun h15 =>
some h15
def fX4_remove_b2 (x0 : Nat) (h : XH) (x2 : Int32) : Option ((XH × Int32) ⊕ XH) :=
(xgI h x0 4 2).bind fun v1 =>
if v1 ≤ (x2 + (1 : Int32)) then
some (.inr h)
else
(xgR h x0 4 0).bind fun v3 =>
(xgR h x0 4 0).bind fun v5 =>
(fX8_at h v5 (x2 + (1 : Int32))).bind fun v7 =>
(fX8_put h v3 x2 v7).bind fun h9 =>
(xgR h9 x0 4 1).bind fun v11 =>
(xgR h9 x0 4 1).bind fun v13 =>
(fX8_at h9 v13 (x2 + (1 : Int32))).bind fun v15 =>
(fX8_put h9 v11 x2 v15).bind fun h17 =>
some (.inl (h17, (x2 + (1 : Int32))))
def fX4_remove_B2 (x0 : Nat) (s : (XH × Int32)) : Option ((XH × Int32) ⊕ XH) := fX4_remove_b2 x0 s.1 s.2
def fX4_remove (h : XH) (x0 : Nat) (x1 : Int32) : Option XH :=
(xloop (fX4_remove_B2 x0) 5000 (h, x1)).bind fun e19 =>
(xgI e19 x0 4 2).bind fun v21 =>
(xpf e19 x0 4 2 (.int (v21 - (1 : Int32)))).bind fun h23 =>
some h23
def fX6_isSameTurnedBy_b2 (h : XH) (x0 : Nat) (x1 : Int32) (x2 : Int32) : Option (Int32 ⊕ (Unit ⊕ Unit)) :=
(xgI h x0 6 3).bind fun v1 =>
if v1 ≤ (x2 + x1) then
some (.inr (.inr ()))
else
(xgR h x0 6 0).bind fun v3 =>
(fX8_at h v3 x2).bind fun v5 =>
(xgR h x0 6 0).bind fun v7 =>
(fX8_at h v7 (x2 + x1)).bind fun v9 =>
if v5 = v9 then
some (.inl (x2 + (1 : Int32)))
else
some (.inr (.inl ()))
def fX6_isSameTurnedBy_B2 (h : XH) (x0 : Nat) (x1 : Int32) (s : Int32) : Option (Int32 ⊕ (Unit ⊕ Unit)) := fX6_isSameTurnedBy_b2 h x0 x1 s
def fX6_isSameTurnedBy (h : XH) (x0 : Nat) (x1 : Int32) : Option Bool :=
(xloop (fX6_isSameTurnedBy_B2 h x0 x1) 5000 (0 : Int32)).bind fun e11 =>
(match e11 with
| .inl e11 =>
some false
| .inr e11 =>
some true
)
def fX6_measure_b2 (h : XH) (x0 : Nat) (x1 : Int32) : Option (Int32 ⊕ (Int32 ⊕ Unit)) :=
(xgI h x0 6 3).bind fun v1 =>
if v1 ≤ x1 then
some (.inr (.inr ()))
else
(xgI h x0 6 3).bind fun v3 =>
(fX8_mod v3 x1).bind fun v5 =>
if v5 = 0 then
(xco h x0 6).bind fun _ =>
(fX6_isSameTurnedBy h x0 x1).bind fun v8 =>
if v8 = true then
some (.inr (.inl x1))
else
some (.inl (x1 + (1 : Int32)))
else
some (.inl (x1 + (1 : Int32)))
def fX6_measure_B2 (h : XH) (x0 : Nat) (s : Int32) : Option (Int32 ⊕ (Int32 ⊕ Unit)) := fX6_measure_b2 h x0 s
def fX6_measure (h : XH) (x0 : Nat) : Option Int32 :=
(xloop (fX6_measure_B2 h x0) 5000 (1 : Int32)).bind fun e10 =>
(match e10 with
| .inl e10 =>
some e10
| .inr e10 =>
(xgI h x0 6 3).bind fun v12 =>
some v12
)
def fX6_turnAt_b16 (h : XH) (x0 : Nat) (x1 : Int32) (x2 : Int32) (x3 : Int32) (x4 : Int32) (x5 : Int32) : Option ((Int32 × Int32 × Int32 × Int32) ⊕ (Int32 × Int32 × Int32)) :=
(xgI h x0 6 6).bind fun v5 =>
if v5 ≤ x5 then
some (.inr (x2, x3, x4))
else
(xgR h x0 6 1).bind fun v7 =>
(fX8_at h v7 x5).bind fun v9 =>
if x1 ≤ v9 then
some (.inr (x2, x3, x4))
else
(xgR h x0 6 1).bind fun v11 =>
(fX8_at h v11 x5).bind fun v13 =>
(xgR h x0 6 1).bind fun v15 =>
(fX8_at h v15 x5).bind fun v17 =>
(xgR h x0 6 2).bind fun v19 =>
(fX8_at h v19 x5).bind fun v21 =>
some (.inl ((x2 + (x4 * (v13 - x3))), v17, v21, (x5 + (1 : Int32))))
def fX6_turnAt_B16 (h : XH) (x0 : Nat) (x1 : Int32) (s : (Int32 × Int32 × Int32 × Int32)) : Option ((Int32 × Int32 × Int32 × Int32) ⊕ (Int32 × Int32 × Int32)) := fX6_turnAt_b16 h x0 x1 s.1 s.2.1 s.2.2.1 s.2.2.2
def fX6_turnAt (h : XH) (x0 : Nat) (x1 : Int32) : Option Int32 :=
(xgI h x0 6 4).bind fun v1 =>
(xgI h x0 6 5).bind fun v3 =>
(xloop (fX6_turnAt_B16 h x0 x1) 5000 (v1, (0 : Int32), v3, (0 : Int32))).bind fun e23 =>
some (e23.1 + (e23.2.2 * (x1 - e23.2.1)))
def fX6_stepBetween (h : XH) (x0 : Nat) (x1 : Int32) (x2 : Int32) (x3 : Int32) : Option Int32 :=
(xco h x0 6).bind fun _ =>
(fX6_turnAt h x0 x2).bind fun v2 =>
(xco h x0 6).bind fun _ =>
(fX6_turnAt h x0 x1).bind fun v5 =>
(fX8_mod (v2 - v5) x3).bind fun v7 =>
if ((2 : Int32) * v7) ≤ x3 then
some v7
else
some (v7 - x3)
def fX5_countSeeming_J79 (h : XH) (x0 : Nat) (x1 : Int32) (x2 : Int32) (x3 : Int32) (x4 : Int32) (x5 : Int32) (s0 : Int32) : Option ((Int32 × Int32) ⊕ Int32) :=
if s0 = x1 then
some (.inl ((x4 + (1 : Int32)), (x5 + (1 : Int32))))
else
some (.inl (x4, (x5 + (1 : Int32))))
def fX5_countSeeming_b22 (h : XH) (x0 : Nat) (x1 : Int32) (x2 : Int32) (x3 : Int32) (x4 : Int32) (x5 : Int32) : Option ((Int32 × Int32) ⊕ Int32) :=
if x3 ≤ (x5 + (1 : Int32)) then
some (.inr x4)
else
(xgR h x0 5 0).bind fun v11 =>
(xgR h x0 5 1).bind fun v13 =>
(xco h v13 2).bind fun _ =>
(fX2_tickOf h v13 x5).bind fun v16 =>
(xgR h x0 5 1).bind fun v18 =>
(xco h v18 2).bind fun _ =>
(fX2_tickOf h v18 (x5 + (1 : Int32))).bind fun v21 =>
(xco h v11 6).bind fun _ =>
(fX6_stepBetween h v11 v16 v21 x2).bind fun v24 =>
if v24 = 0 then
fX5_countSeeming_J79 h x0 x1 x2 x3 x4 x5 (0 : Int32)
else
if v24 ≤ 0 then
fX5_countSeeming_J79 h x0 x1 x2 x3 x4 x5 (2 : Int32)
else
fX5_countSeeming_J79 h x0 x1 x2 x3 x4 x5 (1 : Int32)
def fX5_countSeeming_B22 (h : XH) (x0 : Nat) (x1 : Int32) (x2 : Int32) (x3 : Int32) (s : (Int32 × Int32)) : Option ((Int32 × Int32) ⊕ Int32) := fX5_countSeeming_b22 h x0 x1 x2 x3 s.1 s.2
def fX5_countSeeming (h : XH) (x0 : Nat) (x1 : Int32) : Option Int32 :=
(xgR h x0 5 0).bind fun v1 =>
(xco h v1 6).bind fun _ =>
(fX6_measure h v1).bind fun v4 =>
(xgR h x0 5 1).bind fun v6 =>
(xco h v6 2).bind fun _ =>
(fX2_number h v6).bind fun v9 =>
(xloop (fX5_countSeeming_B22 h x0 x1 v4 v9) 5000 ((0 : Int32), (0 : Int32))).bind fun e26 =>
some e26
def fX6_turnsModulo_b6 (h : XH) (x0 : Nat) (x1 : Int32) (x2 : Int32) (x3 : Int32) (x4 : Int32) (x5 : Int64) (x7 : Int32) : Option ((Int64 × Int32) ⊕ Int64) :=
if x3 ≤ x7 then
some (.inr x5)
else
(xco h x0 6).bind fun _ =>
(fX6_turnAt h x0 (x2 + (x7 * x4))).bind fun v2 =>
(fX8_mod v2 x1).bind fun v4 =>
xlet (x5 ||| (xlshl (1 : Int64) v4)) fun y6 =>
some (.inl (y6, (x7 + (1 : Int32))))
def fX6_turnsModulo_B6 (h : XH) (x0 : Nat) (x1 : Int32) (x2 : Int32) (x3 : Int32) (x4 : Int32) (s : (Int64 × Int32)) : Option ((Int64 × Int32) ⊕ Int64) := fX6_turnsModulo_b6 h x0 x1 x2 x3 x4 s.1 s.2
def fX6_turnsModulo (h : XH) (x0 : Nat) (x1 : Int32) (x2 : Int32) (x3 : Int32) (x4 : Int32) : Option Int64 :=
(xloop (fX6_turnsModulo_B6 h x0 x1 x2 x3 x4) 5000 ((0 : Int64), (0 : Int32))).bind fun e7 =>
some e7
def fX5_differentPictures (h : XH) (x0 : Nat) : Option Int32 :=
(xgR h x0 5 0).bind fun v1 =>
(xgR h x0 5 0).bind fun v3 =>
(xco h v3 6).bind fun _ =>
(fX6_measure h v3).bind fun v6 =>
(xgR h x0 5 1).bind fun v8 =>
(xgI h v8 2 0).bind fun v10 =>
(xgR h x0 5 1).bind fun v12 =>
(xco h v12 2).bind fun _ =>
(fX2_number h v12).bind fun v15 =>
(xgR h x0 5 1).bind fun v17 =>
(xgI h v17 2 1).bind fun v19 =>
(xco h v1 6).bind fun _ =>
(fX6_turnsModulo h v1 v6 v10 v15 v19).bind fun v22 =>
(fJ13_bitCount_95d88 v22).bind fun v24 =>
some v24
def fX5_earliestAlike_b31 (h : XH) (x0 : Nat) (x1 : Int32) (x2 : Int32) (x3 : Int32) (x4 : Int32) : Option (Int32 ⊕ (Int32 ⊕ Unit)) :=
if x1 ≤ x4 then
some (.inr (.inr ()))
else
(xgR h x0 5 0).bind fun v18 =>
(xgR h x0 5 1).bind fun v20 =>
(xco h v20 2).bind fun _ =>
(fX2_tickOf h v20 x4).bind fun v23 =>
(xco h v18 6).bind fun _ =>
(fX6_turnAt h v18 v23).bind fun v26 =>
(fX8_mod v26 x2).bind fun v28 =>
if v28 = x3 then
some (.inr (.inl x4))
else
some (.inl (x4 + (1 : Int32)))
def fX5_earliestAlike_B31 (h : XH) (x0 : Nat) (x1 : Int32) (x2 : Int32) (x3 : Int32) (s : Int32) : Option (Int32 ⊕ (Int32 ⊕ Unit)) := fX5_earliestAlike_b31 h x0 x1 x2 x3 s
def fX5_earliestAlike (h : XH) (x0 : Nat) (x1 : Int32) : Option Int32 :=
(xgR h x0 5 0).bind fun v1 =>
(xco h v1 6).bind fun _ =>
(fX6_measure h v1).bind fun v4 =>
(xgR h x0 5 0).bind fun v6 =>
(xgR h x0 5 1).bind fun v8 =>
(xco h v8 2).bind fun _ =>
(fX2_tickOf h v8 x1).bind fun v11 =>
(xco h v6 6).bind fun _ =>
(fX6_turnAt h v6 v11).bind fun v14 =>
(fX8_mod v14 v4).bind fun v16 =>
(xloop (fX5_earliestAlike_B31 h x0 x1 v4 v16) 5000 (0 : Int32)).bind fun e30 =>
(match e30 with
| .inl e30 =>
some e30
| .inr e30 =>
some x1
)
def fX6_addCell (h : XH) (x0 : Nat) (x1 : Int32) : Option XH :=
(xgR h x0 6 0).bind fun v1 =>
(xgI h x0 6 3).bind fun v3 =>
(fX8_put h v1 v3 x1).bind fun h5 =>
(xgI h5 x0 6 3).bind fun v7 =>
(xpf h5 x0 6 3 (.int (v7 + (1 : Int32)))).bind fun h9 =>
some h9
def fX6_empty (h : XH) (x0 : Nat) : Option XH :=
(xpf h x0 6 3 (.int (0 : Int32))).bind fun h1 =>
(xpf h1 x0 6 4 (.int (0 : Int32))).bind fun h3 =>
(xpf h3 x0 6 5 (.int (0 : Int32))).bind fun h5 =>
(xpf h5 x0 6 6 (.int (0 : Int32))).bind fun h7 =>
some h7
def fX6_placeOfChange_b2 (h : XH) (x0 : Nat) (x1 : Int32) (x2 : Int32) : Option (Int32 ⊕ Int32) :=
(xgI h x0 6 6).bind fun v1 =>
if v1 ≤ x2 then
some (.inr x2)
else
(xgR h x0 6 1).bind fun v3 =>
(fX8_at h v3 x2).bind fun v5 =>
if x1 ≤ v5 then
some (.inr x2)
else
some (.inl (x2 + (1 : Int32)))
def fX6_placeOfChange_B2 (h : XH) (x0 : Nat) (x1 : Int32) (s : Int32) : Option (Int32 ⊕ Int32) := fX6_placeOfChange_b2 h x0 x1 s
def fX6_placeOfChange (h : XH) (x0 : Nat) (x1 : Int32) : Option Int32 :=
(xloop (fX6_placeOfChange_B2 h x0 x1) 5000 (0 : Int32)).bind fun e7 =>
some e7
def fX6_hasChange (h : XH) (x0 : Nat) (x1 : Int32) : Option Bool :=
(xco h x0 6).bind fun _ =>
(fX6_placeOfChange h x0 x1).bind fun v2 =>
(xgI h x0 6 6).bind fun v4 =>
if v4 ≤ v2 then
some false
else
(xgR h x0 6 1).bind fun v6 =>
(fX8_at h v6 v2).bind fun v8 =>
if v8 = x1 then
some true
else
some false
def fX6_hasRoomFor (h : XH) (x0 : Nat) (x1 : Int32) : Option Bool :=
if x1 = 0 then
some true
else
(xco h x0 6).bind fun _ =>
(fX6_hasChange h x0 x1).bind fun v2 =>
if v2 = true then
some true
else
(xgI h x0 6 6).bind fun v4 =>
if (5 : Int32) ≤ v4 then
some false
else
some true
def fX6_insertChange_b11 (x0 : Nat) (x1 : Int32) (x2 : Int32) (h : XH) (x3 : Int32) : Option ((XH × Int32) ⊕ XH) :=
if x3 ≤ x2 then
some (.inr h)
else
(xgR h x0 6 1).bind fun v6 =>
(xgR h x0 6 1).bind fun v8 =>
(fX8_at h v8 (x3 - (1 : Int32))).bind fun v10 =>
(fX8_put h v6 x3 v10).bind fun h12 =>
(xgR h12 x0 6 2).bind fun v14 =>
(xgR h12 x0 6 2).bind fun v16 =>
(fX8_at h12 v16 (x3 - (1 : Int32))).bind fun v18 =>
(fX8_put h12 v14 x3 v18).bind fun h20 =>
some (.inl (h20, (x3 + (-1 : Int32))))
def fX6_insertChange_B11 (x0 : Nat) (x1 : Int32) (x2 : Int32) (s : (XH × Int32)) : Option ((XH × Int32) ⊕ XH) := fX6_insertChange_b11 x0 x1 x2 s.1 s.2
def fX6_insertChange (h : XH) (x0 : Nat) (x1 : Int32) : Option XH :=
(xco h x0 6).bind fun _ =>
(fX6_placeOfChange h x0 x1).bind fun v2 =>
(xgI h x0 6 6).bind fun v4 =>
(xloop (fX6_insertChange_B11 x0 x1 v2) 5000 (h, v4)).bind fun e22 =>
(xgR e22 x0 6 1).bind fun v24 =>
(fX8_put e22 v24 v2 x1).bind fun h26 =>
(xgI h26 x0 6 6).bind fun v28 =>
(xpf h26 x0 6 6 (.int (v28 + (1 : Int32)))).bind fun h30 =>
some h30
def fX6_looksTheSame (h : XH) (x0 : Nat) (x1 : Int32) (x2 : Int32) : Option Bool :=
(xco h x0 6).bind fun _ =>
(fX6_measure h x0).bind fun v2 =>
(xco h x0 6).bind fun _ =>
(fX6_turnsModulo h x0 v2 x1 x2 (1 : Int32)).bind fun v5 =>
(fJ13_bitCount_95d88 v5).bind fun v7 =>
if v7 = (1 : Int32) then
some true
else
some false
def fX6_markOf (h : XH) (x0 : Nat) (x1 : Int32) : Option Int32 :=
(xgR h x0 6 0).bind fun v1 =>
(fX8_at h v1 x1).bind fun v3 =>
some v3
def fX6_markedCells_b4 (h : XH) (x0 : Nat) (x1 : Int32) (x2 : Int32) : Option ((Int32 × Int32) ⊕ Int32) :=
(xgI h x0 6 3).bind fun v1 =>
if v1 ≤ x2 then
some (.inr x1)
else
(xco h x0 6).bind fun _ =>
(fX6_markOf h x0 x2).bind fun v4 =>
if v4 = 0 then
some (.inl (x1, (x2 + (1 : Int32))))
else
some (.inl ((x1 + (1 : Int32)), (x2 + (1 : Int32))))
def fX6_markedCells_B4 (h : XH) (x0 : Nat) (s : (Int32 × Int32)) : Option ((Int32 × Int32) ⊕ Int32) := fX6_markedCells_b4 h x0 s.1 s.2
def fX6_markedCells (h : XH) (x0 : Nat) : Option Int32 :=
(xloop (fX6_markedCells_B4 h x0) 5000 ((0 : Int32), (0 : Int32))).bind fun e6 =>
some e6
def fX6_marksPassing_b6 (h : XH) (x0 : Nat) (x1 : Int32) (x2 : Int64) (x4 : Int32) (x5 : Int32) : Option ((Int32 × Int32) ⊕ Int32) :=
(xgI h x0 6 3).bind fun v1 =>
if v1 ≤ x5 then
some (.inr x4)
else
(fX8_hasBit x2 x5).bind fun v3 =>
if v3 = true then
(xgI h x0 6 3).bind fun v5 =>
(fX8_mod (x1 - x5) v5).bind fun v7 =>
(xco h x0 6).bind fun _ =>
(fX6_markOf h x0 v7).bind fun v10 =>
xlet (x4 ||| ((1 : Int32) <<< (v10 &&& 31))) fun y12 =>
some (.inl (y12, (x5 + (1 : Int32))))
else
some (.inl (x4, (x5 + (1 : Int32))))
def fX6_marksPassing_B6 (h : XH) (x0 : Nat) (x1 : Int32) (x2 : Int64) (s : (Int32 × Int32)) : Option ((Int32 × Int32) ⊕ Int32) := fX6_marksPassing_b6 h x0 x1 x2 s.1 s.2
def fX6_marksPassing (h : XH) (x0 : Nat) (x1 : Int32) (x2 : Int64) : Option Int32 :=
(xloop (fX6_marksPassing_B6 h x0 x1 x2) 5000 ((0 : Int32), (0 : Int32))).bind fun e13 =>
some (e13 >>> ((1 : Int32) &&& 31))
def fX6_putSpeed (h : XH) (x0 : Nat) (x1 : Int32) (x2 : Int32) : Option XH :=
if x1 = 0 then
(xpf h x0 6 5 (.int x2)).bind fun h21 =>
some h21
else
(xco h x0 6).bind fun _ =>
(fX6_hasChange h x0 x1).bind fun v2 =>
if v2 = true then
(xgR h x0 6 2).bind fun v4 =>
(xco h x0 6).bind fun _ =>
(fX6_placeOfChange h x0 x1).bind fun v7 =>
(fX8_put h v4 v7 x2).bind fun h9 =>
some h9
else
(xco h x0 6).bind fun _ =>
(fX6_insertChange h x0 x1).bind fun h12 =>
(xgR h12 x0 6 2).bind fun v14 =>
(xco h12 x0 6).bind fun _ =>
(fX6_placeOfChange h12 x0 x1).bind fun v17 =>
(fX8_put h12 v14 v17 x2).bind fun h19 =>
some h19
def fX6_removeChange_b6 (x0 : Nat) (h : XH) (x2 : Int32) : Option ((XH × Int32) ⊕ XH) :=
(xgI h x0 6 6).bind fun v4 =>
if v4 ≤ (x2 + (1 : Int32)) then
some (.inr h)
else
(xgR h x0 6 1).bind fun v6 =>
(xgR h x0 6 1).bind fun v8 =>
(fX8_at h v8 (x2 + (1 : Int32))).bind fun v10 =>
(fX8_put h v6 x2 v10).bind fun h12 =>
(xgR h12 x0 6 2).bind fun v14 =>
(xgR h12 x0 6 2).bind fun v16 =>
(fX8_at h12 v16 (x2 + (1 : Int32))).bind fun v18 =>
(fX8_put h12 v14 x2 v18).bind fun h20 =>
some (.inl (h20, (x2 + (1 : Int32))))
def fX6_removeChange_B6 (x0 : Nat) (s : (XH × Int32)) : Option ((XH × Int32) ⊕ XH) := fX6_removeChange_b6 x0 s.1 s.2
def fX6_removeChange (h : XH) (x0 : Nat) (x1 : Int32) : Option XH :=
(xco h x0 6).bind fun _ =>
(fX6_placeOfChange h x0 x1).bind fun v2 =>
(xloop (fX6_removeChange_B6 x0) 5000 (h, v2)).bind fun e22 =>
(xgI e22 x0 6 6).bind fun v24 =>
(xpf e22 x0 6 6 (.int (v24 - (1 : Int32)))).bind fun h26 =>
some h26
def fX6_smearedPlaces_b18 (h : XH) (x0 : Nat) (x3 : Int64) (x5 : Int32) (x6 : Int32) : Option ((Int32 × Int32) ⊕ Int32) :=
(xgI h x0 6 3).bind fun v6 =>
if v6 ≤ x6 then
some (.inr x5)
else
(xco h x0 6).bind fun _ =>
(fX6_marksPassing h x0 x6 x3).bind fun v9 =>
(fJ6_bitCount_0f7a4 v9).bind fun v11 =>
if v11 ≤ (1 : Int32) then
some (.inl (x5, (x6 + (1 : Int32))))
else
some (.inl ((x5 + (1 : Int32)), (x6 + (1 : Int32))))
def fX6_smearedPlaces_B18 (h : XH) (x0 : Nat) (x3 : Int64) (s : (Int32 × Int32)) : Option ((Int32 × Int32) ⊕ Int32) := fX6_smearedPlaces_b18 h x0 x3 s.1 s.2
def fX6_smearedPlaces (h : XH) (x0 : Nat) (x1 : Int32) (x2 : Int32) : Option Int32 :=
(xgI h x0 6 3).bind fun v1 =>
(xco h x0 6).bind fun _ =>
(fX6_turnsModulo h x0 v1 x1 x2 (1 : Int32)).bind fun v4 =>
(xloop (fX6_smearedPlaces_B18 h x0 v4) 5000 ((0 : Int32), (0 : Int32))).bind fun e13 =>
some e13
def fX7_append (h : XH) (x0 : Nat) (x1 : Int32) : Option XH :=
(xgR h x0 7 0).bind fun v1 =>
(xgI h x0 7 2).bind fun v3 =>
(fX8_put h v1 v3 x1).bind fun h5 =>
(xgI h5 x0 7 2).bind fun v7 =>
(xpf h5 x0 7 2 (.int (v7 + (1 : Int32)))).bind fun h9 =>
some h9
def fX7_code (h : XH) (x0 : Nat) : Option Int32 :=
(xgI h x0 7 1).bind fun v1 =>
(xgI h x0 7 2).bind fun v3 =>
if v3 ≤ v1 then
some (0 : Int32)
else
(xgR h x0 7 0).bind fun v5 =>
(xgI h x0 7 1).bind fun v7 =>
(fX8_at h v5 v7).bind fun v9 =>
some v9
def fX7_init (h : XH) (n : Nat) (x0 : Nat) : Option XH :=
(xnw h n (.inr (0, 80, .inl (fun _ => 0)))).bind fun h1 =>
(xpf h1 x0 7 0 (.ref n)).bind fun h3 =>
(xpf h3 x0 7 3 (.int (0 : Int32))).bind fun h5 =>
some h5
def fX8_within (x0 : Int32) (x1 : Int32) (x2 : Int32) : Option Bool :=
if x0 < x1 then
some false
else
if x2 < x0 then
some false
else
some true
def fX7_isCell (x0 : Int32) : Option Bool :=
if x0 = (46 : Int32) then
some true
else
(fX8_within x0 (97 : Int32) (99 : Int32)).bind fun v1 =>
if v1 = true then
some true
else
some false
def fX7_isDigit (x0 : Int32) : Option Bool :=
(fX8_within x0 (48 : Int32) (57 : Int32)).bind fun v1 =>
some v1
def fX7_tellFault (h : XH) (x0 : Nat) (x1 : Int32) (x2 : Int32) : Option XH :=
(xpf h x0 7 3 (.int x1)).bind fun h1 =>
(xpf h1 x0 7 4 (.int x2)).bind fun h3 =>
some h3
def fX7_readCells_b0 (x0 : Nat) (x1 : Nat) (h : XH) : Option (XH ⊕ XH) :=
(xgI h x0 7 1).bind fun v46 =>
(xgI h x0 7 2).bind fun v48 =>
if v48 ≤ v46 then
some (.inr h)
else
(xgI h x1 6 3).bind fun v50 =>
if (60 : Int32) ≤ v50 then
some (.inr h)
else
(xco h x0 7).bind fun _ =>
(fX7_code h x0).bind fun v53 =>
(fX7_isCell v53).bind fun v55 =>
if v55 = true then
(xco h x0 7).bind fun _ =>
(fX7_code h x0).bind fun v58 =>
if v58 = (46 : Int32) then
(xco h x1 6).bind fun _ =>
(fX6_addCell h x1 (0 : Int32)).bind fun h71 =>
(xgI h71 x0 7 1).bind fun v73 =>
(xpf h71 x0 7 1 (.int (v73 + (1 : Int32)))).bind fun h75 =>
some (.inl h75)
else
(xco h x0 7).bind fun _ =>
(fX7_code h x0).bind fun v61 =>
(xco h x1 6).bind fun _ =>
(fX6_addCell h x1 ((v61 - (97 : Int32)) + (1 : Int32))).bind fun h64 =>
(xgI h64 x0 7 1).bind fun v66 =>
(xpf h64 x0 7 1 (.int (v66 + (1 : Int32)))).bind fun h68 =>
some (.inl h68)
else
some (.inr h)
def fX7_readCells_B0 (x0 : Nat) (x1 : Nat) (s : XH) : Option (XH ⊕ XH) := fX7_readCells_b0 x0 x1 s
def fX7_readCells_J53 (h : XH) (x0 : Nat) (x1 : Nat) (s0 : Nat) (s1 : Int32) : Option (XH) :=
(xco h s0 6).bind fun _ =>
(fX6_addCell h s0 s1).bind fun h40 =>
(xgI h40 x0 7 1).bind fun v42 =>
(xpf h40 x0 7 1 (.int (v42 + (1 : Int32)))).bind fun h44 =>
(xloop (fX7_readCells_B0 x0 x1) 5000 h44).bind fun e77 =>
(xgI e77 x1 6 3).bind fun v79 =>
if v79 = 0 then
(xgI e77 x0 7 1).bind fun v81 =>
(xco e77 x0 7).bind fun _ =>
(fX7_tellFault e77 x0 (1 : Int32) v81).bind fun h84 =>
some h84
else
some e77
def fX7_readCells (h : XH) (x0 : Nat) (x1 : Nat) : Option XH :=
(xgI h x0 7 1).bind fun v1 =>
(xgI h x0 7 2).bind fun v3 =>
if v3 ≤ v1 then
(xgI h x1 6 3).bind fun v5 =>
if v5 = 0 then
(xgI h x0 7 1).bind fun v7 =>
(xco h x0 7).bind fun _ =>
(fX7_tellFault h x0 (1 : Int32) v7).bind fun h10 =>
some h10
else
some h
else
(xgI h x1 6 3).bind fun v12 =>
if (60 : Int32) ≤ v12 then
(xgI h x1 6 3).bind fun v14 =>
if v14 = 0 then
(xgI h x0 7 1).bind fun v16 =>
(xco h x0 7).bind fun _ =>
(fX7_tellFault h x0 (1 : Int32) v16).bind fun h19 =>
some h19
else
some h
else
(xco h x0 7).bind fun _ =>
(fX7_code h x0).bind fun v22 =>
(fX7_isCell v22).bind fun v24 =>
if v24 = true then
(xco h x0 7).bind fun _ =>
(fX7_code h x0).bind fun v34 =>
if v34 = (46 : Int32) then
fX7_readCells_J53 h x0 x1 x1 (0 : Int32)
else
(xco h x0 7).bind fun _ =>
(fX7_code h x0).bind fun v37 =>
fX7_readCells_J53 h x0 x1 x1 ((v37 - (97 : Int32)) + (1 : Int32))
else
(xgI h x1 6 3).bind fun v26 =>
if v26 = 0 then
(xgI h x0 7 1).bind fun v28 =>
(xco h x0 7).bind fun _ =>
(fX7_tellFault h x0 (1 : Int32) v28).bind fun h31 =>
some h31
else
some h
def fX7_readNumber_b8 (x0 : Nat) (x1 : Int32) (x2 : Int32) (x3 : Int32) (h : XH) (x4 : Int32) : Option ((XH × Int32) ⊕ (XH × Int32)) :=
(xco h x0 7).bind fun _ =>
(fX7_code h x0).bind fun v4 =>
(fX7_isDigit v4).bind fun v6 =>
if v6 = true then
(xgI h x0 7 1).bind fun v8 =>
if x1 ≤ (v8 - x3) then
some (.inr (h, x4))
else
(xco h x0 7).bind fun _ =>
(fX7_code h x0).bind fun v11 =>
xlet ((((10 : Int32) * x4) + v11) - (48 : Int32)) fun y13 =>
(xgI h x0 7 1).bind fun v14 =>
(xpf h x0 7 1 (.int (v14 + (1 : Int32)))).bind fun h16 =>
some (.inl (h16, y13))
else
some (.inr (h, x4))
def fX7_readNumber_B8 (x0 : Nat) (x1 : Int32) (x2 : Int32) (x3 : Int32) (s : (XH × Int32)) : Option ((XH × Int32) ⊕ (XH × Int32)) := fX7_readNumber_b8 x0 x1 x2 x3 s.1 s.2
def fX7_readNumber (h : XH) (x0 : Nat) (x1 : Int32) (x2 : Int32) : Option (Int32 × XH) :=
(xgI h x0 7 1).bind fun v1 =>
(xloop (fX7_readNumber_B8 x0 x1 x2 v1) 5000 (h, (0 : Int32))).bind fun e18 =>
(xgI e18.1 x0 7 1).bind fun v20 =>
if v20 = v1 then
(xgI e18.1 x0 7 1).bind fun v22 =>
(xco e18.1 x0 7).bind fun _ =>
(fX7_tellFault e18.1 x0 (1 : Int32) v22).bind fun h25 =>
some (e18.2, h25)
else
(xco e18.1 x0 7).bind fun _ =>
(fX7_code e18.1 x0).bind fun v28 =>
(fX7_isDigit v28).bind fun v30 =>
if v30 = true then
(xgI e18.1 x0 7 1).bind fun v35 =>
(xco e18.1 x0 7).bind fun _ =>
(fX7_tellFault e18.1 x0 (1 : Int32) v35).bind fun h38 =>
some (e18.2, h38)
else
if e18.2 ≤ x2 then
some (e18.2, e18.1)
else
(xco e18.1 x0 7).bind fun _ =>
(fX7_tellFault e18.1 x0 (2 : Int32) v1).bind fun h33 =>
some (e18.2, h33)
def fX7_takes (h : XH) (x0 : Nat) (x1 : Int32) : Option (Bool × XH) :=
(xco h x0 7).bind fun _ =>
(fX7_code h x0).bind fun v2 =>
if v2 = x1 then
(xgI h x0 7 1).bind fun v4 =>
(xpf h x0 7 1 (.int (v4 + (1 : Int32)))).bind fun h6 =>
some (true, h6)
else
some (false, h)
def fX7_readSpeed (h : XH) (x0 : Nat) : Option (Int32 × XH) :=
(xco h x0 7).bind fun _ =>
(fX7_takes h x0 (45 : Int32)).bind fun v2 =>
if v2.1 = true then
(xco v2.2 x0 7).bind fun _ =>
(fX7_readNumber v2.2 x0 (4 : Int32) (1000 : Int32)).bind fun v8 =>
some ((-v8.1), v8.2)
else
(xco v2.2 x0 7).bind fun _ =>
(fX7_readNumber v2.2 x0 (4 : Int32) (1000 : Int32)).bind fun v5 =>
some (v5.1, v5.2)
def fX7_readInto_J97 (h : XH) (x0 : Nat) : Option (Bool × XH) :=
(xgI h x0 7 3).bind fun v17 =>
if v17 = 0 then
some (true, h)
else
some (false, h)
def fX7_readInto_J70 (h : XH) (x0 : Nat) : Option (Bool × XH) :=
(xgI h x0 7 3).bind fun v15 =>
if v15 = 0 then
(xgI h x0 7 1).bind fun v19 =>
(xgI h x0 7 2).bind fun v21 =>
if v21 ≤ v19 then
fX7_readInto_J97 h x0
else
(xgI h x0 7 1).bind fun v23 =>
(xco h x0 7).bind fun _ =>
(fX7_tellFault h x0 (1 : Int32) v23).bind fun h26 =>
fX7_readInto_J97 h26 x0
else
fX7_readInto_J97 h x0
def fX7_readInto_J46 (h : XH) (x0 : Nat) (x1 : Nat) : Option (Bool × XH) :=
(xgI h x0 7 3).bind fun v13 =>
if v13 = 0 then
(xco h x0 7).bind fun _ =>
(fX7_takes h x0 (42 : Int32)).bind fun v29 =>
if v29.1 = true then
(xco v29.2 x0 7).bind fun _ =>
(fX7_readSpeed v29.2 x0).bind fun v32 =>
(xpf v32.2 x1 6 5 (.int v32.1)).bind fun h34 =>
fX7_readInto_J70 h34 x0
else
fX7_readInto_J70 v29.2 x0
else
fX7_readInto_J70 h x0
def fX7_readInto (h : XH) (x0 : Nat) (x1 : Nat) : Option (Bool × XH) :=
(xpf h x0 7 1 (.int (0 : Int32))).bind fun h1 =>
(xpf h1 x0 7 3 (.int (0 : Int32))).bind fun h3 =>
(xco h3 x1 6).bind fun _ =>
(fX6_empty h3 x1).bind fun h6 =>
(xco h6 x0 7).bind fun _ =>
(fX7_readCells h6 x0 x1).bind fun h9 =>
(xgI h9 x0 7 3).bind fun v11 =>
if v11 = 0 then
(xco h9 x0 7).bind fun _ =>
(fX7_takes h9 x0 (64 : Int32)).bind fun v37 =>
if v37.1 = true then
(xco v37.2 x0 7).bind fun _ =>
(fX7_readNumber v37.2 x0 (2 : Int32) (59 : Int32)).bind fun v40 =>
(xpf v40.2 x1 6 4 (.int v40.1)).bind fun h42 =>
fX7_readInto_J46 h42 x0 x1
else
fX7_readInto_J46 v37.2 x0 x1
else
fX7_readInto_J46 h9 x0 x1
def fX8_addReading (h : XH) (x0 : Nat) (x1 : Int32) (x2 : Int32) : Option (Int32 × XH) :=
(xgR h x0 8 0).bind fun v1 =>
(xgR h v1 5 2).bind fun v3 =>
(xgI h v3 4 2).bind fun v5 =>
if v5 < (8 : Int32) then
(xgR h x0 8 1).bind fun v7 =>
(xgR h x0 8 0).bind fun v9 =>
(xco h v7 3).bind fun _ =>
(fX3_remember h v7 v9).bind fun h12 =>
(xgR h12 x0 8 0).bind fun v14 =>
(xgR h12 v14 5 2).bind fun v16 =>
(xco h12 v16 4).bind fun _ =>
(fX4_add h12 v16 x1 x2).bind fun h19 =>
(xgR h19 x0 8 0).bind fun v21 =>
(xgR h19 v21 5 2).bind fun v23 =>
(xgI h19 v23 4 2).bind fun v25 =>
some ((v25 - (1 : Int32)), h19)
else
some ((-1003 : Int32), h)
def fX8_findWithout (h : XH) (x0 : Nat) (x1 : Int32) : Option (Nat × XH) :=
(xgR h x0 8 4).bind fun v1 =>
(xgR h x0 8 0).bind fun v3 =>
(xgR h v3 5 0).bind fun v5 =>
(xco h v5 6).bind fun _ =>
(fX6_measure h v5).bind fun v8 =>
(xgR h x0 8 0).bind fun v10 =>
(xgR h v10 5 2).bind fun v12 =>
(xco h v1 0).bind fun _ =>
(fX0_find h v1 v8 v12 x1).bind fun h15 =>
(xgR h15 x0 8 4).bind fun v17 =>
some (v17, h15)
def fX8_bestPeriod_b49 (x1 : Int32) (x2 : Bool) (x3 : Nat) (h : XH) (x4 : Int32) (x5 : Int32) (x6 : Int32) : Option ((XH × Int32 × Int32 × Int32) ⊕ (XH × Int32 × Int32)) :=
if x1 < x6 then
some (.inr (h, x4, x5))
else
(xco h x3 0).bind fun _ =>
(fX0_restOf h x3 x6).bind fun v16 =>
if x5 ≤ v16.1 then
some (.inl (v16.2, x4, x5, (x6 + (1 : Int32))))
else
some (.inl (v16.2, x6, v16.1, (x6 + (1 : Int32))))
def fX8_bestPeriod_B49 (x1 : Int32) (x2 : Bool) (x3 : Nat) (s : (XH × Int32 × Int32 × Int32)) : Option ((XH × Int32 × Int32 × Int32) ⊕ (XH × Int32 × Int32)) := fX8_bestPeriod_b49 x1 x2 x3 s.1 s.2.1 s.2.2.1 s.2.2.2
def fX8_bestPeriod (h : XH) (x0 : Nat) (x1 : Int32) (x2 : Bool) : Option (Int32 × XH) :=
(fX8_within x1 (1 : Int32) (500 : Int32)).bind fun v1 =>
if v1 = true then
(xco h x0 8).bind fun _ =>
(fX8_findWithout h x0 (-1 : Int32)).bind fun v4 =>
(xco v4.2 v4.1 0).bind fun _ =>
(fX0_number v4.2 v4.1).bind fun v7 =>
if v7 = 0 then
some ((-1004 : Int32), v4.2)
else
(xco v4.2 v4.1 0).bind fun _ =>
(fX0_countByRemainder v4.2 v4.1).bind fun h10 =>
(xco h10 v4.1 0).bind fun _ =>
(fX0_restOf h10 v4.1 (1 : Int32)).bind fun v13 =>
(xloop (fX8_bestPeriod_B49 x1 x2 v4.1) 5000 (v13.2, (1 : Int32), v13.1, (2 : Int32))).bind fun e18 =>
if x2 = true then
some (e18.2.2, e18.1)
else
some (e18.2.1, e18.1)
else
some ((-1001 : Int32), h)
def fX8_candidate (h : XH) (x0 : Nat) (x1 : Int32) : Option (Int32 × XH) :=
if 0 ≤ x1 then
(xco h x0 8).bind fun _ =>
(fX8_findWithout h x0 (-1 : Int32)).bind fun v2 =>
(xco v2.2 v2.1 0).bind fun _ =>
(fX0_inOrder v2.2 v2.1 x1).bind fun v5 =>
some (v5, v2.2)
else
some ((-1001 : Int32), h)
def fX8_candidates (h : XH) (x0 : Nat) : Option (Int32 × XH) :=
(xco h x0 8).bind fun _ =>
(fX8_findWithout h x0 (-1 : Int32)).bind fun v2 =>
(xco v2.2 v2.1 0).bind fun _ =>
(fX0_number v2.2 v2.1).bind fun v5 =>
some (v5, v2.2)
def fX8_clearText (h : XH) (x0 : Nat) : Option (Int32 × XH) :=
(xgR h x0 8 2).bind fun v1 =>
(xgI h v1 7 2).bind fun v3 =>
(xgR h x0 8 2).bind fun v5 =>
(xpf h v5 7 2 (.int (0 : Int32))).bind fun h7 =>
some (v3, h7)
def fX8_count (h : XH) (x0 : Nat) (x1 : Int32) : Option Int32 :=
if x1 = 0 then
(xgR h x0 8 0).bind fun v19 =>
(xgR h v19 5 0).bind fun v21 =>
(xgI h v21 6 3).bind fun v23 =>
some v23
else
if x1 = 1 then
(xgR h x0 8 0).bind fun v25 =>
(xgR h v25 5 0).bind fun v27 =>
(xco h v27 6).bind fun _ =>
(fX6_markedCells h v27).bind fun v30 =>
some v30
else
if x1 = 2 then
(xgR h x0 8 0).bind fun v32 =>
(xgR h v32 5 0).bind fun v34 =>
(xco h v34 6).bind fun _ =>
(fX6_measure h v34).bind fun v37 =>
some v37
else
if x1 = 3 then
(xgR h x0 8 0).bind fun v39 =>
(xgR h v39 5 0).bind fun v41 =>
(xgI h v41 6 4).bind fun v43 =>
some v43
else
if x1 = 4 then
(xgR h x0 8 0).bind fun v45 =>
(xgR h v45 5 0).bind fun v47 =>
(xgI h v47 6 5).bind fun v49 =>
some v49
else
if x1 = 5 then
(xgR h x0 8 0).bind fun v51 =>
(xgR h v51 5 0).bind fun v53 =>
(xgI h v53 6 6).bind fun v55 =>
some v55
else
if x1 = 6 then
(xgR h x0 8 0).bind fun v57 =>
(xgR h v57 5 1).bind fun v59 =>
(xgI h v59 2 0).bind fun v61 =>
some v61
else
if x1 = 7 then
(xgR h x0 8 0).bind fun v63 =>
(xgR h v63 5 1).bind fun v65 =>
(xgI h v65 2 1).bind fun v67 =>
some v67
else
if x1 = 8 then
(xgR h x0 8 0).bind fun v69 =>
(xgR h v69 5 1).bind fun v71 =>
(xco h v71 2).bind fun _ =>
(fX2_number h v71).bind fun v74 =>
some v74
else
if x1 = 9 then
(xgR h x0 8 0).bind fun v76 =>
(xgR h v76 5 2).bind fun v78 =>
(xgI h v78 4 2).bind fun v80 =>
some v80
else
if x1 = 10 then
(xgR h x0 8 0).bind fun v82 =>
(xgR h v82 5 2).bind fun v84 =>
(xgI h v84 4 3).bind fun v86 =>
some v86
else
if x1 = 11 then
(xgR h x0 8 0).bind fun v88 =>
(xgR h v88 5 3).bind fun v90 =>
(xgI h v90 1 0).bind fun v92 =>
some v92
else
if x1 = 12 then
(xgR h x0 8 0).bind fun v94 =>
(xgR h v94 5 3).bind fun v96 =>
(xgI h v96 1 1).bind fun v98 =>
some v98
else
if x1 = 13 then
(xgR h x0 8 0).bind fun v100 =>
(xgR h v100 5 3).bind fun v102 =>
(xgI h v102 1 2).bind fun v104 =>
some v104
else
if x1 = 14 then
(xgR h x0 8 0).bind fun v106 =>
(xgR h v106 5 3).bind fun v108 =>
(xgI h v108 1 3).bind fun v110 =>
some v110
else
if x1 = 15 then
(xgR h x0 8 0).bind fun v112 =>
(xgR h v112 5 3).bind fun v114 =>
(xco h v114 1).bind fun _ =>
(fX1_openings h v114).bind fun v117 =>
some v117
else
if x1 = 16 then
(xgR h x0 8 2).bind fun v119 =>
(xgI h v119 7 2).bind fun v121 =>
some v121
else
if x1 = 17 then
(xgR h x0 8 1).bind fun v123 =>
(xgI h v123 3 2).bind fun v125 =>
some v125
else
some (-1001 : Int32)
def fX8_opening (h : XH) (x0 : Nat) (x1 : Int32) (x2 : Int32) : Option Int32 :=
if x1 < 0 then
some (-1001 : Int32)
else
(fX8_within x2 (0 : Int32) (3 : Int32)).bind fun v1 =>
if v1 = true then
(xgR h x0 8 0).bind fun v3 =>
(xgR h v3 5 3).bind fun v5 =>
(xco h v5 1).bind fun _ =>
(fX1_firstTickOf h v5 x1).bind fun v8 =>
if 0 ≤ v8 then
(xgR h x0 8 0).bind fun v10 =>
(xgR h v10 5 3).bind fun v12 =>
(xco h v12 1).bind fun _ =>
(fX1_ticksFrom h v12 v8).bind fun v15 =>
if x2 = 0 then
some v8
else
if x2 = 1 then
some v15
else
if x2 = 2 then
(xgR h x0 8 0).bind fun v20 =>
(xgR h v20 5 0).bind fun v22 =>
(xco h v22 6).bind fun _ =>
(fX6_smearedPlaces h v22 v8 v15).bind fun v25 =>
some v25
else
(xgR h x0 8 0).bind fun v27 =>
(xgR h v27 5 0).bind fun v29 =>
(xco h v29 6).bind fun _ =>
(fX6_looksTheSame h v29 v8 v15).bind fun v32 =>
if v32 = true then
some (1 : Int32)
else
some (0 : Int32)
else
some (-1004 : Int32)
else
some (-1001 : Int32)
def fX8_isPlace (h : XH) (x0 : Nat) (x1 : Int32) : Option Bool :=
(xgR h x0 8 0).bind fun v1 =>
(xgR h v1 5 0).bind fun v3 =>
(xgI h v3 6 3).bind fun v5 =>
(fX8_within x1 (0 : Int32) (v5 - (1 : Int32))).bind fun v7 =>
some v7
def fX8_smear (h : XH) (x0 : Nat) (x1 : Int32) (x2 : Int32) : Option Int32 :=
if x1 < 0 then
some (-1001 : Int32)
else
(xco h x0 8).bind fun _ =>
(fX8_isPlace h x0 x2).bind fun v2 =>
if v2 = true then
(xgR h x0 8 0).bind fun v4 =>
(xgR h v4 5 3).bind fun v6 =>
(xco h v6 1).bind fun _ =>
(fX1_firstTickOf h v6 x1).bind fun v9 =>
if 0 ≤ v9 then
(xgR h x0 8 0).bind fun v11 =>
(xgR h v11 5 0).bind fun v13 =>
(xgR h x0 8 0).bind fun v15 =>
(xgR h v15 5 0).bind fun v17 =>
(xgI h v17 6 3).bind fun v19 =>
(xgR h x0 8 0).bind fun v21 =>
(xgR h v21 5 3).bind fun v23 =>
(xco h v23 1).bind fun _ =>
(fX1_ticksFrom h v23 v9).bind fun v26 =>
(xco h v13 6).bind fun _ =>
(fX6_turnsModulo h v13 v19 v9 v26 (1 : Int32)).bind fun v29 =>
(xgR h x0 8 0).bind fun v31 =>
(xgR h v31 5 0).bind fun v33 =>
(xco h v33 6).bind fun _ =>
(fX6_marksPassing h v33 x2 v29).bind fun v36 =>
some v36
else
some (-1004 : Int32)
else
some (-1001 : Int32)
def fX8_digestOfOpenings_b14 (h : XH) (x0 : Nat) (x5 : Int32) (x3 : Int64) (x6 : Int32) : Option ((Int64 × Int32) ⊕ Int64) :=
if (3 : Int32) < x6 then
some (.inr x3)
else
(xco h x0 8).bind fun _ =>
(fX8_opening h x0 x5 x6).bind fun v2 =>
xlet (((31 : Int64) * x3) + (v2.toInt64)) fun y4 =>
some (.inl (y4, (x6 + (1 : Int32))))
def fX8_digestOfOpenings_B14 (h : XH) (x0 : Nat) (x5 : Int32) (s : (Int64 × Int32)) : Option ((Int64 × Int32) ⊕ Int64) := fX8_digestOfOpenings_b14 h x0 x5 s.1 s.2
def fX8_digestOfOpenings_b5 (h : XH) (x0 : Nat) (x3 : Int64) (x5 : Int32) : Option ((Int64 × Int32) ⊕ Int64) :=
if (4 : Int32) < x5 then
some (.inr x3)
else
(xloop (fX8_digestOfOpenings_B14 h x0 x5) 5000 (x3, (0 : Int32))).bind fun e5 =>
(xco h x0 8).bind fun _ =>
(fX8_smear h x0 x5 (0 : Int32)).bind fun v8 =>
xlet (((31 : Int64) * e5) + (v8.toInt64)) fun y10 =>
some (.inl (y10, (x5 + (1 : Int32))))
def fX8_digestOfOpenings_B5 (h : XH) (x0 : Nat) (s : (Int64 × Int32)) : Option ((Int64 × Int32) ⊕ Int64) := fX8_digestOfOpenings_b5 h x0 s.1 s.2
def fX8_digestOfOpenings (h : XH) (x0 : Nat) (x1 : Int64) : Option Int64 :=
(xloop (fX8_digestOfOpenings_B5 h x0) 5000 (x1, (0 : Int32))).bind fun e11 =>
some e11
def fX8_isFlash (h : XH) (x0 : Nat) (x1 : Int32) : Option Bool :=
(xgR h x0 8 0).bind fun v1 =>
(xgR h v1 5 1).bind fun v3 =>
(xco h v3 2).bind fun _ =>
(fX2_number h v3).bind fun v6 =>
(fX8_within x1 (0 : Int32) (v6 - (1 : Int32))).bind fun v8 =>
some v8
def fX8_isTick (x0 : Int32) : Option Bool :=
(fX8_within x0 (0 : Int32) (1000 : Int32)).bind fun v1 =>
some v1
def fX8_step (h : XH) (x0 : Nat) (x1 : Int32) (x2 : Int32) : Option Int32 :=
(fX8_isTick x1).bind fun v1 =>
if v1 = true then
(fX8_isTick x2).bind fun v3 =>
if v3 = true then
(xgR h x0 8 0).bind fun v5 =>
(xgR h v5 5 0).bind fun v7 =>
(xgR h x0 8 0).bind fun v9 =>
(xgR h v9 5 0).bind fun v11 =>
(xco h v11 6).bind fun _ =>
(fX6_measure h v11).bind fun v14 =>
(xco h v7 6).bind fun _ =>
(fX6_stepBetween h v7 x1 x2 v14).bind fun v17 =>
some v17
else
some (-1001 : Int32)
else
some (-1001 : Int32)
def fX8_turn (h : XH) (x0 : Nat) (x1 : Int32) : Option Int32 :=
(fX8_isTick x1).bind fun v1 =>
if v1 = true then
(xgR h x0 8 0).bind fun v3 =>
(xgR h v3 5 0).bind fun v5 =>
(xco h v5 6).bind fun _ =>
(fX6_turnAt h v5 x1).bind fun v8 =>
(xgR h x0 8 0).bind fun v10 =>
(xgR h v10 5 0).bind fun v12 =>
(xgI h v12 6 3).bind fun v14 =>
(fX8_mod v8 v14).bind fun v16 =>
some v16
else
some (-1001 : Int32)
def fX8_flash (h : XH) (x0 : Nat) (x1 : Int32) (x2 : Int32) : Option Int32 :=
(xco h x0 8).bind fun _ =>
(fX8_isFlash h x0 x1).bind fun v2 =>
if v2 = true then
(fX8_within x2 (0 : Int32) (3 : Int32)).bind fun v4 =>
if v4 = true then
(xgR h x0 8 0).bind fun v6 =>
(xgR h v6 5 1).bind fun v8 =>
(xco h v8 2).bind fun _ =>
(fX2_tickOf h v8 x1).bind fun v11 =>
if x2 = 0 then
some v11
else
if x2 = 1 then
(xco h x0 8).bind fun _ =>
(fX8_turn h x0 v11).bind fun v17 =>
some v17
else
if x2 = 2 then
(xco h x0 8).bind fun _ =>
(fX8_isFlash h x0 (x1 + (1 : Int32))).bind fun v20 =>
if v20 = true then
(xgR h x0 8 0).bind fun v22 =>
(xgR h v22 5 1).bind fun v24 =>
(xco h v24 2).bind fun _ =>
(fX2_tickOf h v24 (x1 + (1 : Int32))).bind fun v27 =>
(xco h x0 8).bind fun _ =>
(fX8_step h x0 v11 v27).bind fun v30 =>
some v30
else
some (-1004 : Int32)
else
(xgR h x0 8 0).bind fun v32 =>
(xco h v32 5).bind fun _ =>
(fX5_earliestAlike h v32 x1).bind fun v35 =>
some v35
else
some (-1001 : Int32)
else
some (-1001 : Int32)
def fX8_markAt (h : XH) (x0 : Nat) (x1 : Int32) (x2 : Int32) : Option Int32 :=
(fX8_isTick x1).bind fun v1 =>
if v1 = true then
(xco h x0 8).bind fun _ =>
(fX8_isPlace h x0 x2).bind fun v4 =>
if v4 = true then
(xgR h x0 8 0).bind fun v6 =>
(xgR h v6 5 0).bind fun v8 =>
(xgR h x0 8 0).bind fun v10 =>
(xgR h v10 5 0).bind fun v12 =>
(xco h v12 6).bind fun _ =>
(fX6_turnAt h v12 x1).bind fun v15 =>
(xgR h x0 8 0).bind fun v17 =>
(xgR h v17 5 0).bind fun v19 =>
(xgI h v19 6 3).bind fun v21 =>
(fX8_mod (x2 - v15) v21).bind fun v23 =>
(xco h v8 6).bind fun _ =>
(fX6_markOf h v8 v23).bind fun v26 =>
some v26
else
some (-1001 : Int32)
else
some (-1001 : Int32)
def fX8_seems (h : XH) (x0 : Nat) (x1 : Int32) : Option Int32 :=
(fX8_within x1 (0 : Int32) (3 : Int32)).bind fun v1 =>
if v1 = true then
if x1 = (3 : Int32) then
(xgR h x0 8 0).bind fun v8 =>
(xco h v8 5).bind fun _ =>
(fX5_differentPictures h v8).bind fun v11 =>
some v11
else
(xgR h x0 8 0).bind fun v3 =>
(xco h v3 5).bind fun _ =>
(fX5_countSeeming h v3 x1).bind fun v6 =>
some v6
else
some (-1001 : Int32)
def fX8_digestOfPictures_b5 (h : XH) (x0 : Nat) (x3 : Int64) (x5 : Int32) : Option ((Int64 × Int32) ⊕ Int64) :=
(xgR h x0 8 0).bind fun v1 =>
(xgR h v1 5 0).bind fun v3 =>
(xgI h v3 6 3).bind fun v5 =>
if v5 ≤ x5 then
some (.inr x3)
else
(xco h x0 8).bind fun _ =>
(fX8_markAt h x0 (0 : Int32) x5).bind fun v8 =>
xlet (((31 : Int64) * x3) + (v8.toInt64)) fun y10 =>
(xco h x0 8).bind fun _ =>
(fX8_markAt h x0 (1000 : Int32) x5).bind fun v12 =>
xlet (((31 : Int64) * y10) + (v12.toInt64)) fun y14 =>
some (.inl (y14, (x5 + (1 : Int32))))
def fX8_digestOfPictures_B5 (h : XH) (x0 : Nat) (s : (Int64 × Int32)) : Option ((Int64 × Int32) ⊕ Int64) := fX8_digestOfPictures_b5 h x0 s.1 s.2
def fX8_digestOfPictures_b80 (h : XH) (x0 : Nat) (x5 : Int32) (x3 : Int64) (x6 : Int32) : Option ((Int64 × Int32) ⊕ Int64) :=
if (3 : Int32) < x6 then
some (.inr x3)
else
(xco h x0 8).bind fun _ =>
(fX8_flash h x0 x5 x6).bind fun v21 =>
xlet (((31 : Int64) * x3) + (v21.toInt64)) fun y23 =>
some (.inl (y23, (x6 + (1 : Int32))))
def fX8_digestOfPictures_B80 (h : XH) (x0 : Nat) (x5 : Int32) (s : (Int64 × Int32)) : Option ((Int64 × Int32) ⊕ Int64) := fX8_digestOfPictures_b80 h x0 x5 s.1 s.2
def fX8_digestOfPictures_b61 (h : XH) (x0 : Nat) (x3 : Int64) (x5 : Int32) : Option ((Int64 × Int32) ⊕ Int64) :=
if (20 : Int32) ≤ x5 then
some (.inr x3)
else
(xco h x0 8).bind fun _ =>
(fX8_isFlash h x0 x5).bind fun v18 =>
if v18 = true then
(xloop (fX8_digestOfPictures_B80 h x0 x5) 5000 (x3, (0 : Int32))).bind fun e24 =>
some (.inl (e24, (x5 + (1 : Int32))))
else
some (.inr x3)
def fX8_digestOfPictures_B61 (h : XH) (x0 : Nat) (s : (Int64 × Int32)) : Option ((Int64 × Int32) ⊕ Int64) := fX8_digestOfPictures_b61 h x0 s.1 s.2
def fX8_digestOfPictures_b117 (h : XH) (x0 : Nat) (x3 : Int64) (x5 : Int32) : Option ((Int64 × Int32) ⊕ Int64) :=
if (3 : Int32) < x5 then
some (.inr x3)
else
(xco h x0 8).bind fun _ =>
(fX8_seems h x0 x5).bind fun v29 =>
xlet (((31 : Int64) * x3) + (v29.toInt64)) fun y31 =>
some (.inl (y31, (x5 + (1 : Int32))))
def fX8_digestOfPictures_B117 (h : XH) (x0 : Nat) (s : (Int64 × Int32)) : Option ((Int64 × Int32) ⊕ Int64) := fX8_digestOfPictures_b117 h x0 s.1 s.2
def fX8_digestOfPictures (h : XH) (x0 : Nat) (x1 : Int64) : Option Int64 :=
(xloop (fX8_digestOfPictures_B5 h x0) 5000 (x1, (0 : Int32))).bind fun e15 =>
(xloop (fX8_digestOfPictures_B61 h x0) 5000 (e15, (0 : Int32))).bind fun e26 =>
(xloop (fX8_digestOfPictures_B117 h x0) 5000 (e26, (0 : Int32))).bind fun e32 =>
some e32
def fX8_nearest (h : XH) (x0 : Nat) (x1 : Int32) : Option (Int32 × XH) :=
(fX8_within x1 (-1000 : Int32) (1000 : Int32)).bind fun v1 =>
if v1 = true then
(xco h x0 8).bind fun _ =>
(fX8_findWithout h x0 (-1 : Int32)).bind fun v4 =>
(xco v4.2 v4.1 0).bind fun _ =>
(fX0_nearestTo v4.2 v4.1 x1).bind fun v7 =>
some (v7, v4.2)
else
some ((-1001 : Int32), h)
def fX8_isReading (h : XH) (x0 : Nat) (x1 : Int32) : Option Bool :=
(xgR h x0 8 0).bind fun v1 =>
(xgR h v1 5 2).bind fun v3 =>
(xgI h v3 4 2).bind fun v5 =>
(fX8_within x1 (0 : Int32) (v5 - (1 : Int32))).bind fun v7 =>
some v7
def fX8_reading (h : XH) (x0 : Nat) (x1 : Int32) (x2 : Int32) : Option (Int32 × XH) :=
(xco h x0 8).bind fun _ =>
(fX8_isReading h x0 x1).bind fun v2 =>
if v2 = true then
(fX8_within x2 (0 : Int32) (2 : Int32)).bind fun v4 =>
if v4 = true then
if x2 = 0 then
(xgR h x0 8 0).bind fun v8 =>
(xgR h v8 5 2).bind fun v10 =>
(xgR h v10 4 0).bind fun v12 =>
(fX8_at h v12 x1).bind fun v14 =>
some (v14, h)
else
if x2 = 1 then
(xgR h x0 8 0).bind fun v16 =>
(xgR h v16 5 2).bind fun v18 =>
(xgR h v18 4 1).bind fun v20 =>
(fX8_at h v20 x1).bind fun v22 =>
some (v22, h)
else
(xco h x0 8).bind fun _ =>
(fX8_findWithout h x0 x1).bind fun v25 =>
(xco v25.2 v25.1 0).bind fun _ =>
(fX0_number v25.2 v25.1).bind fun v28 =>
some (v28, v25.2)
else
some ((-1001 : Int32), h)
else
some ((-1001 : Int32), h)
def fX8_digestOfReadings_b23 (x0 : Nat) (x5 : Int32) (h : XH) (x3 : Int64) (x6 : Int32) : Option ((XH × Int64 × Int32) ⊕ (XH × Int64)) :=
if (2 : Int32) < x6 then
some (.inr (h, x3))
else
(xco h x0 8).bind fun _ =>
(fX8_reading h x0 x5 x6).bind fun v8 =>
xlet (((31 : Int64) * x3) + (v8.1.toInt64)) fun y10 =>
some (.inl (v8.2, y10, (x6 + (1 : Int32))))
def fX8_digestOfReadings_B23 (x0 : Nat) (x5 : Int32) (s : (XH × Int64 × Int32)) : Option ((XH × Int64 × Int32) ⊕ (XH × Int64)) := fX8_digestOfReadings_b23 x0 x5 s.1 s.2.1 s.2.2
def fX8_digestOfReadings_b5 (x0 : Nat) (h : XH) (x3 : Int64) (x5 : Int32) : Option ((XH × Int64 × Int32) ⊕ (XH × Int64)) :=
(xgR h x0 8 0).bind fun v1 =>
(xgR h v1 5 2).bind fun v3 =>
(xgI h v3 4 2).bind fun v5 =>
if v5 ≤ x5 then
some (.inr (h, x3))
else
(xloop (fX8_digestOfReadings_B23 x0 x5) 5000 (h, x3, (0 : Int32))).bind fun e11 =>
some (.inl (e11.1, e11.2, (x5 + (1 : Int32))))
def fX8_digestOfReadings_B5 (x0 : Nat) (s : (XH × Int64 × Int32)) : Option ((XH × Int64 × Int32) ⊕ (XH × Int64)) := fX8_digestOfReadings_b5 x0 s.1 s.2.1 s.2.2
def fX8_digestOfReadings_b72 (x0 : Nat) (h : XH) (x3 : Int64) (x5 : Int32) : Option ((XH × Int64 × Int32) ⊕ (XH × Int64)) :=
if (4 : Int32) < x5 then
some (.inr (h, x3))
else
(xco h x0 8).bind fun _ =>
(fX8_candidate h x0 x5).bind fun v20 =>
xlet (((31 : Int64) * x3) + (v20.1.toInt64)) fun y22 =>
some (.inl (v20.2, y22, (x5 + (1 : Int32))))
def fX8_digestOfReadings_B72 (x0 : Nat) (s : (XH × Int64 × Int32)) : Option ((XH × Int64 × Int32) ⊕ (XH × Int64)) := fX8_digestOfReadings_b72 x0 s.1 s.2.1 s.2.2
def fX8_digestOfReadings (h : XH) (x0 : Nat) (x1 : Int64) : Option (Int64 × XH) :=
(xloop (fX8_digestOfReadings_B5 x0) 5000 (h, x1, (0 : Int32))).bind fun e13 =>
(xco e13.1 x0 8).bind fun _ =>
(fX8_candidates e13.1 x0).bind fun v16 =>
xlet (((31 : Int64) * e13.2) + (v16.1.toInt64)) fun y18 =>
(xloop (fX8_digestOfReadings_B72 x0) 5000 (v16.2, y18, (0 : Int32))).bind fun e23 =>
(xco e23.1 x0 8).bind fun _ =>
(fX8_nearest e23.1 x0 (0 : Int32)).bind fun v26 =>
xlet (((31 : Int64) * e23.2) + (v26.1.toInt64)) fun y28 =>
(xco v26.2 x0 8).bind fun _ =>
(fX8_bestPeriod v26.2 x0 (20 : Int32) false).bind fun v30 =>
xlet (((31 : Int64) * y28) + (v30.1.toInt64)) fun y32 =>
(xco v30.2 x0 8).bind fun _ =>
(fX8_bestPeriod v30.2 x0 (20 : Int32) true).bind fun v34 =>
some ((((31 : Int64) * y32) + (v34.1.toInt64)), v34.2)
def fX8_digest_b6 (h : XH) (x0 : Nat) (x1 : Int64) (x3 : Int32) : Option ((Int64 × Int32) ⊕ Int64) :=
if (17 : Int32) < x3 then
some (.inr x1)
else
(xco h x0 8).bind fun _ =>
(fX8_count h x0 x3).bind fun v2 =>
xlet (((31 : Int64) * x1) + (v2.toInt64)) fun y4 =>
some (.inl (y4, (x3 + (1 : Int32))))
def fX8_digest_B6 (h : XH) (x0 : Nat) (s : (Int64 × Int32)) : Option ((Int64 × Int32) ⊕ Int64) := fX8_digest_b6 h x0 s.1 s.2
def fX8_digest (h : XH) (x0 : Nat) : Option (Int64 × XH) :=
(xloop (fX8_digest_B6 h x0) 5000 ((12956 : Int64), (0 : Int32))).bind fun e5 =>
(xco h x0 8).bind fun _ =>
(fX8_digestOfPictures h x0 e5).bind fun v8 =>
(xco h x0 8).bind fun _ =>
(fX8_digestOfReadings h x0 v8).bind fun v11 =>
(xco v11.2 x0 8).bind fun _ =>
(fX8_digestOfOpenings v11.2 x0 v11.1).bind fun v14 =>
some (v14, v11.2)
def fX8_dropChange (h : XH) (x0 : Nat) (x1 : Int32) : Option (Int32 × XH) :=
(xgR h x0 8 0).bind fun v1 =>
(xgR h v1 5 0).bind fun v3 =>
(xco h v3 6).bind fun _ =>
(fX6_hasChange h v3 x1).bind fun v6 =>
if v6 = true then
(xgR h x0 8 1).bind fun v8 =>
(xgR h x0 8 0).bind fun v10 =>
(xco h v8 3).bind fun _ =>
(fX3_remember h v8 v10).bind fun h13 =>
(xgR h13 x0 8 0).bind fun v15 =>
(xgR h13 v15 5 0).bind fun v17 =>
(xco h13 v17 6).bind fun _ =>
(fX6_removeChange h13 v17 x1).bind fun h20 =>
(xgR h20 x0 8 0).bind fun v22 =>
(xgR h20 v22 5 0).bind fun v24 =>
(xgI h20 v24 6 6).bind fun v26 =>
some (v26, h20)
else
some ((-1001 : Int32), h)
def fX8_dropReading (h : XH) (x0 : Nat) (x1 : Int32) : Option (Int32 × XH) :=
(xco h x0 8).bind fun _ =>
(fX8_isReading h x0 x1).bind fun v2 =>
if v2 = true then
(xgR h x0 8 1).bind fun v4 =>
(xgR h x0 8 0).bind fun v6 =>
(xco h v4 3).bind fun _ =>
(fX3_remember h v4 v6).bind fun h9 =>
(xgR h9 x0 8 0).bind fun v11 =>
(xgR h9 v11 5 2).bind fun v13 =>
(xco h9 v13 4).bind fun _ =>
(fX4_remove h9 v13 x1).bind fun h16 =>
(xgR h16 x0 8 0).bind fun v18 =>
(xgR h16 v18 5 2).bind fun v20 =>
(xgI h16 v20 4 2).bind fun v22 =>
some (v22, h16)
else
some ((-1001 : Int32), h)
def fX8_faultKind (h : XH) (x0 : Nat) : Option Int32 :=
(xgR h x0 8 2).bind fun v1 =>
(xgI h v1 7 3).bind fun v3 =>
some v3
def fX8_init (h : XH) (n : Nat) (x0 : Nat) : Option XH :=
(xnw h n (.inl (5, [.null, .null, .null, .null]))).bind fun h1 =>
(fX5_init h1 (n + 1) n).bind fun h3 =>
(xpf h3 x0 8 0 (.ref n)).bind fun h5 =>
(xnw h5 (n + 10) (.inl (3, [.null, .int 0, .int 0]))).bind fun h7 =>
(fX3_init h7 (n + 11) (n + 10)).bind fun h9 =>
(xpf h9 x0 8 1 (.ref (n + 10))).bind fun h11 =>
(xnw h11 (n + 92) (.inl (7, [.null, .int 0, .int 0, .int 0, .int 0]))).bind fun h13 =>
(fX7_init h13 (n + 93) (n + 92)).bind fun h15 =>
(xpf h15 x0 8 2 (.ref (n + 92))).bind fun h17 =>
(xnw h17 (n + 94) (.inl (6, [.null, .null, .null, .int 0, .int 0, .int 0, .int 0]))).bind fun h19 =>
(fX6_init h19 (n + 95) (n + 94)).bind fun h21 =>
(xpf h21 x0 8 3 (.ref (n + 94))).bind fun h23 =>
(xnw h23 (n + 98) (.inl (0, [.null, .null, .int 0, .int 0, .long 0]))).bind fun h25 =>
(fX0_init h25 (n + 99) (n + 98)).bind fun h27 =>
(xpf h27 x0 8 4 (.ref (n + 98))).bind fun h29 =>
some h29
def fX8_isSeen (h : XH) (x0 : Nat) (x1 : Int32) : Option Int32 :=
(fX8_isTick x1).bind fun v1 =>
if v1 = true then
(xgR h x0 8 0).bind fun v3 =>
(xgR h v3 5 3).bind fun v5 =>
(xco h v5 1).bind fun _ =>
(fX1_isOpenAt h v5 x1).bind fun v8 =>
if v8 = true then
some (1 : Int32)
else
some (0 : Int32)
else
some (-1001 : Int32)
def fX8_load (h : XH) (x0 : Nat) : Option (Int32 × XH) :=
(xgR h x0 8 2).bind fun v1 =>
(xgR h x0 8 3).bind fun v3 =>
(xco h v1 7).bind fun _ =>
(fX7_readInto h v1 v3).bind fun v6 =>
if v6.1 = true then
(xgR v6.2 x0 8 1).bind fun v8 =>
(xgR v6.2 x0 8 0).bind fun v10 =>
(xco v6.2 v8 3).bind fun _ =>
(fX3_remember v6.2 v8 v10).bind fun h13 =>
(xgR h13 x0 8 0).bind fun v15 =>
(xgR h13 v15 5 0).bind fun v17 =>
(xgR h13 x0 8 3).bind fun v19 =>
(xco h13 v17 6).bind fun _ =>
(fX6_copyFrom h13 v17 v19).bind fun h22 =>
(xgR h22 x0 8 0).bind fun v24 =>
(xgR h22 v24 5 0).bind fun v26 =>
(xgI h22 v26 6 3).bind fun v28 =>
some (v28, h22)
else
(xgR v6.2 x0 8 2).bind fun v30 =>
(xgI v6.2 v30 7 4).bind fun v32 =>
some (((-10 : Int32) - v32), v6.2)
def fX8_look (h : XH) (x0 : Nat) (x1 : Int32) : Option (Int32 × XH) :=
(xco h x0 8).bind fun _ =>
(fX8_isFlash h x0 x1).bind fun v2 =>
if v2 = true then
(xgR h x0 8 0).bind fun v4 =>
(xgR h v4 5 1).bind fun v6 =>
(xco h v6 2).bind fun _ =>
(fX2_number h v6).bind fun v9 =>
if x1 = (v9 - (1 : Int32)) then
some ((-1001 : Int32), h)
else
(xgR h x0 8 0).bind fun v11 =>
(xgR h v11 5 1).bind fun v13 =>
(xgI h v13 2 1).bind fun v15 =>
(xco h x0 8).bind fun _ =>
(fX8_flash h x0 x1 (2 : Int32)).bind fun v18 =>
(xco h x0 8).bind fun _ =>
(fX8_addReading h x0 v15 v18).bind fun v21 =>
some (v21.1, v21.2)
else
some ((-1001 : Int32), h)
def fX8_odd_b13 (x0 : Nat) (h : XH) (x1 : Int32) : Option ((XH × Int32) ⊕ ((XH × Int32) ⊕ XH)) :=
(xgR h x0 8 0).bind fun v4 =>
(xgR h v4 5 2).bind fun v6 =>
(xgI h v6 4 2).bind fun v8 =>
if v8 ≤ x1 then
some (.inr (.inr h))
else
(xco h x0 8).bind fun _ =>
(fX8_findWithout h x0 x1).bind fun v11 =>
(xco v11.2 v11.1 0).bind fun _ =>
(fX0_number v11.2 v11.1).bind fun v14 =>
if v14 ≤ 0 then
some (.inl (v11.2, (x1 + (1 : Int32))))
else
some (.inr (.inl (v11.2, x1)))
def fX8_odd_B13 (x0 : Nat) (s : (XH × Int32)) : Option ((XH × Int32) ⊕ ((XH × Int32) ⊕ XH)) := fX8_odd_b13 x0 s.1 s.2
def fX8_odd (h : XH) (x0 : Nat) : Option (Int32 × XH) :=
(xco h x0 8).bind fun _ =>
(fX8_candidates h x0).bind fun v2 =>
if v2.1 ≤ 0 then
(xloop (fX8_odd_B13 x0) 5000 (v2.2, (0 : Int32))).bind fun e16 =>
(match e16 with
| .inl e16 =>
some (e16.2, e16.1)
| .inr e16 =>
some ((-1004 : Int32), e16)
)
else
some ((-1002 : Int32), v2.2)
def fX8_read (h : XH) (x0 : Nat) (x1 : Int32) (x2 : Int32) : Option (Int32 × XH) :=
(fX8_within x1 (1 : Int32) (500 : Int32)).bind fun v1 =>
if v1 = true then
(fX8_within x2 (-30 : Int32) (30 : Int32)).bind fun v3 =>
if v3 = true then
(xco h x0 8).bind fun _ =>
(fX8_addReading h x0 x1 x2).bind fun v6 =>
some (v6.1, v6.2)
else
some ((-1001 : Int32), h)
else
some ((-1001 : Int32), h)
def fX8_setDisc (h : XH) (x0 : Nat) (x1 : Int32) (x2 : Int32) : Option (Int32 × XH) :=
(fX8_within x1 (1 : Int32) (30 : Int32)).bind fun v1 =>
if v1 = true then
(fX8_within x2 (0 : Int32) (((1 : Int32) <<< (x1 &&& 31)) - (1 : Int32))).bind fun v3 =>
if v3 = true then
(xgR h x0 8 1).bind fun v5 =>
(xgR h x0 8 0).bind fun v7 =>
(xco h v5 3).bind fun _ =>
(fX3_remember h v5 v7).bind fun h10 =>
(xgR h10 x0 8 0).bind fun v12 =>
(xgR h10 v12 5 3).bind fun v14 =>
(xpf h10 v14 1 0 (.int x1)).bind fun h16 =>
(xgR h16 x0 8 0).bind fun v18 =>
(xgR h16 v18 5 3).bind fun v20 =>
(xpf h16 v20 1 1 (.int x2)).bind fun h22 =>
(fJ6_bitCount_0f7a4 x2).bind fun v24 =>
some (v24, h22)
else
some ((-1001 : Int32), h)
else
some ((-1001 : Int32), h)
def fX8_setFlash (h : XH) (x0 : Nat) (x1 : Int32) (x2 : Int32) : Option (Int32 × XH) :=
(fX8_isTick x1).bind fun v1 =>
if v1 = true then
(fX8_within x2 (1 : Int32) (500 : Int32)).bind fun v3 =>
if v3 = true then
(xgR h x0 8 1).bind fun v5 =>
(xgR h x0 8 0).bind fun v7 =>
(xco h v5 3).bind fun _ =>
(fX3_remember h v5 v7).bind fun h10 =>
(xgR h10 x0 8 0).bind fun v12 =>
(xgR h10 v12 5 1).bind fun v14 =>
(xpf h10 v14 2 0 (.int x1)).bind fun h16 =>
(xgR h16 x0 8 0).bind fun v18 =>
(xgR h16 v18 5 1).bind fun v20 =>
(xpf h16 v20 2 1 (.int x2)).bind fun h22 =>
(xgR h22 x0 8 0).bind fun v24 =>
(xgR h22 v24 5 1).bind fun v26 =>
(xco h22 v26 2).bind fun _ =>
(fX2_number h22 v26).bind fun v29 =>
some (v29, h22)
else
some ((-1001 : Int32), h)
else
some ((-1001 : Int32), h)
def fX8_setLimit (h : XH) (x0 : Nat) (x1 : Int32) : Option (Int32 × XH) :=
(fX8_within x1 (1 : Int32) (1000 : Int32)).bind fun v1 =>
if v1 = true then
(xgR h x0 8 1).bind fun v3 =>
(xgR h x0 8 0).bind fun v5 =>
(xco h v3 3).bind fun _ =>
(fX3_remember h v3 v5).bind fun h8 =>
(xgR h8 x0 8 0).bind fun v10 =>
(xgR h8 v10 5 2).bind fun v12 =>
(xgI h8 v12 4 3).bind fun v14 =>
(xgR h8 x0 8 0).bind fun v16 =>
(xgR h8 v16 5 2).bind fun v18 =>
(xpf h8 v18 4 3 (.int x1)).bind fun h20 =>
some (v14, h20)
else
some ((-1001 : Int32), h)
def fX8_setMark (h : XH) (x0 : Nat) (x1 : Int32) (x2 : Int32) : Option (Int32 × XH) :=
(xco h x0 8).bind fun _ =>
(fX8_isPlace h x0 x1).bind fun v2 =>
if v2 = true then
(fX8_within x2 (0 : Int32) (3 : Int32)).bind fun v4 =>
if v4 = true then
(xgR h x0 8 1).bind fun v6 =>
(xgR h x0 8 0).bind fun v8 =>
(xco h v6 3).bind fun _ =>
(fX3_remember h v6 v8).bind fun h11 =>
(xgR h11 x0 8 0).bind fun v13 =>
(xgR h11 v13 5 0).bind fun v15 =>
(xco h11 v15 6).bind fun _ =>
(fX6_markOf h11 v15 x1).bind fun v18 =>
(xgR h11 x0 8 0).bind fun v20 =>
(xgR h11 v20 5 0).bind fun v22 =>
(xgR h11 v22 6 0).bind fun v24 =>
(fX8_put h11 v24 x1 x2).bind fun h26 =>
some (v18, h26)
else
some ((-1001 : Int32), h)
else
some ((-1001 : Int32), h)
def fX8_setSpeed (h : XH) (x0 : Nat) (x1 : Int32) (x2 : Int32) : Option (Int32 × XH) :=
(fX8_isTick x1).bind fun v1 =>
if v1 = true then
(fX8_within x2 (-1000 : Int32) (1000 : Int32)).bind fun v3 =>
if v3 = true then
(xgR h x0 8 0).bind fun v5 =>
(xgR h v5 5 0).bind fun v7 =>
(xco h v7 6).bind fun _ =>
(fX6_hasRoomFor h v7 x1).bind fun v10 =>
if v10 = true then
(xgR h x0 8 1).bind fun v12 =>
(xgR h x0 8 0).bind fun v14 =>
(xco h v12 3).bind fun _ =>
(fX3_remember h v12 v14).bind fun h17 =>
(xgR h17 x0 8 0).bind fun v19 =>
(xgR h17 v19 5 0).bind fun v21 =>
(xco h17 v21 6).bind fun _ =>
(fX6_putSpeed h17 v21 x1 x2).bind fun h24 =>
(xgR h24 x0 8 0).bind fun v26 =>
(xgR h24 v26 5 0).bind fun v28 =>
(xgI h24 v28 6 6).bind fun v30 =>
some (v30, h24)
else
some ((-1003 : Int32), h)
else
some ((-1001 : Int32), h)
else
some ((-1001 : Int32), h)
def fX8_setStart (h : XH) (x0 : Nat) (x1 : Int32) : Option (Int32 × XH) :=
(fX8_within x1 (0 : Int32) (59 : Int32)).bind fun v1 =>
if v1 = true then
(xgR h x0 8 1).bind fun v3 =>
(xgR h x0 8 0).bind fun v5 =>
(xco h v3 3).bind fun _ =>
(fX3_remember h v3 v5).bind fun h8 =>
(xgR h8 x0 8 0).bind fun v10 =>
(xgR h8 v10 5 0).bind fun v12 =>
(xgI h8 v12 6 4).bind fun v14 =>
(xgR h8 x0 8 0).bind fun v16 =>
(xgR h8 v16 5 0).bind fun v18 =>
(xpf h8 v18 6 4 (.int x1)).bind fun h20 =>
some (v14, h20)
else
some ((-1001 : Int32), h)
def fX8_stillPeriod_b40 (h : XH) (x0 : Nat) (x2 : Int32) (x3 : Int32) (x4 : Int32) : Option (Int32 ⊕ (Int32 ⊕ Unit)) :=
if x2 < x4 then
some (.inr (.inr ()))
else
(xgR h x0 8 0).bind fun v12 =>
(xgR h v12 5 0).bind fun v14 =>
(xgI h v14 6 5).bind fun v16 =>
(fX8_mod (v16 * x4) x3).bind fun v18 =>
if v18 = 0 then
some (.inr (.inl x4))
else
some (.inl (x4 + (1 : Int32)))
def fX8_stillPeriod_B40 (h : XH) (x0 : Nat) (x2 : Int32) (x3 : Int32) (s : Int32) : Option (Int32 ⊕ (Int32 ⊕ Unit)) := fX8_stillPeriod_b40 h x0 x2 x3 s
def fX8_stillPeriod (h : XH) (x0 : Nat) (x1 : Int32) (x2 : Int32) : Option Int32 :=
(fX8_within x1 (1 : Int32) (500 : Int32)).bind fun v1 =>
if v1 = true then
(fX8_within x2 x1 (500 : Int32)).bind fun v3 =>
if v3 = true then
(xgR h x0 8 0).bind fun v5 =>
(xgR h v5 5 0).bind fun v7 =>
(xco h v7 6).bind fun _ =>
(fX6_measure h v7).bind fun v10 =>
(xloop (fX8_stillPeriod_B40 h x0 x2 v10) 5000 x1).bind fun e20 =>
(match e20 with
| .inl e20 =>
some e20
| .inr e20 =>
some (-1004 : Int32)
)
else
some (-1001 : Int32)
else
some (-1001 : Int32)
def fX8_turnDisc (h : XH) (x0 : Nat) (x1 : Int32) (x2 : Int32) : Option (Int32 × XH) :=
(fX8_within x1 (0 : Int32) (29 : Int32)).bind fun v1 =>
if v1 = true then
(fX8_within x2 (-1000 : Int32) (1000 : Int32)).bind fun v3 =>
if v3 = true then
(xgR h x0 8 1).bind fun v5 =>
(xgR h x0 8 0).bind fun v7 =>
(xco h v5 3).bind fun _ =>
(fX3_remember h v5 v7).bind fun h10 =>
(xgR h10 x0 8 0).bind fun v12 =>
(xgR h10 v12 5 3).bind fun v14 =>
(xgI h10 v14 1 3).bind fun v16 =>
(xgR h10 x0 8 0).bind fun v18 =>
(xgR h10 v18 5 3).bind fun v20 =>
(xpf h10 v20 1 2 (.int x1)).bind fun h22 =>
(xgR h22 x0 8 0).bind fun v24 =>
(xgR h22 v24 5 3).bind fun v26 =>
(xpf h22 v26 1 3 (.int x2)).bind fun h28 =>
some (v16, h28)
else
some ((-1001 : Int32), h)
else
some ((-1001 : Int32), h)
def fX8_type (h : XH) (x0 : Nat) (x1 : Int32) : Option (Int32 × XH) :=
(fX8_within x1 (32 : Int32) (126 : Int32)).bind fun v1 =>
if v1 = true then
(xgR h x0 8 2).bind fun v3 =>
(xgI h v3 7 2).bind fun v5 =>
if v5 < (80 : Int32) then
(xgR h x0 8 2).bind fun v7 =>
(xco h v7 7).bind fun _ =>
(fX7_append h v7 x1).bind fun h10 =>
(xgR h10 x0 8 2).bind fun v12 =>
(xgI h10 v12 7 2).bind fun v14 =>
some (v14, h10)
else
some ((-1003 : Int32), h)
else
some ((-1001 : Int32), h)
def fX8_undo (h : XH) (x0 : Nat) : Option (Int32 × XH) :=
(xgR h x0 8 1).bind fun v1 =>
(xgI h v1 3 2).bind fun v3 =>
if v3 = 0 then
some ((-1002 : Int32), h)
else
(xgR h x0 8 1).bind fun v5 =>
(xgR h x0 8 0).bind fun v7 =>
(xco h v5 3).bind fun _ =>
(fX3_restore h v5 v7).bind fun h10 =>
(xgR h10 x0 8 1).bind fun v12 =>
(xgI h10 v12 3 2).bind fun v14 =>
some (v14, h10)
def fX9_copies_b2 (x0 : Nat) (x1 : Int32) (x2 : Int32) (h : XH) (x3 : Int32) : Option ((XH × Int32) ⊕ XH) :=
if (98 : Int32) ≤ x3 then
some (.inr h)
else
(xgR h x0 9 0).bind fun v1 =>
(xgR h x0 9 0).bind fun v3 =>
(xaI h v3 0 (((98 : Int32) * x1) + x3)).bind fun v5 =>
(xsI h v1 0 (((98 : Int32) * x2) + x3) v5).bind fun h7 =>
some (.inl (h7, (x3 + (1 : Int32))))
def fX9_copies_B2 (x0 : Nat) (x1 : Int32) (x2 : Int32) (s : (XH × Int32)) : Option ((XH × Int32) ⊕ XH) := fX9_copies_b2 x0 x1 x2 s.1 s.2
def fX9_copies (h : XH) (x0 : Nat) (x1 : Int32) (x2 : Int32) : Option XH :=
(xloop (fX9_copies_B2 x0 x1 x2) 5000 (h, (0 : Int32))).bind fun e9 =>
some e9
def fX9_records_J41 (h : XH) (x0 : Nat) : Option (XH) :=
(xgI h x0 9 1).bind fun v3 =>
(xpf h x0 9 1 (.int (v3 + (1 : Int32)))).bind fun h5 =>
(xgI h5 x0 9 1).bind fun v7 =>
(xco h5 x0 9).bind fun _ =>
(fX9_copies h5 x0 (0 : Int32) v7).bind fun h10 =>
some h10
def fX9_records_b11 (x0 : Nat) (h : XH) (x1 : Int32) : Option ((XH × Int32) ⊕ XH) :=
if (8 : Int32) ≤ x1 then
some (.inr h)
else
(xco h x0 9).bind fun _ =>
(fX9_copies h x0 (x1 + (1 : Int32)) x1).bind fun h13 =>
some (.inl (h13, (x1 + (1 : Int32))))
def fX9_records_B11 (x0 : Nat) (s : (XH × Int32)) : Option ((XH × Int32) ⊕ XH) := fX9_records_b11 x0 s.1 s.2
def fX9_records (h : XH) (x0 : Nat) : Option XH :=
(xgI h x0 9 1).bind fun v1 =>
if v1 = (8 : Int32) then
(xloop (fX9_records_B11 x0) 5000 (h, (1 : Int32))).bind fun e15 =>
(xgI e15 x0 9 1).bind fun v17 =>
(xpf e15 x0 9 1 (.int (v17 - (1 : Int32)))).bind fun h19 =>
fX9_records_J41 h19 x0
else
fX9_records_J41 h x0
def fX9_adds (h : XH) (x0 : Nat) (x1 : Int32) (x2 : Int32) : Option (Int32 × XH) :=
(xco h x0 9).bind fun _ =>
(fX9_records h x0).bind fun h2 =>
(xgR h2 x0 9 0).bind fun v4 =>
(xaI h2 v4 0 (76 : Int32)).bind fun v6 =>
(xgR h2 x0 9 0).bind fun v8 =>
(xsI h2 v8 0 ((77 : Int32) + ((2 : Int32) * v6)) x1).bind fun h10 =>
(xgR h10 x0 9 0).bind fun v12 =>
(xsI h10 v12 0 (((77 : Int32) + ((2 : Int32) * v6)) + (1 : Int32)) x2).bind fun h14 =>
(xgR h14 x0 9 0).bind fun v16 =>
(xaI h14 v16 0 (76 : Int32)).bind fun v18 =>
(xsI h14 v16 0 (76 : Int32) (v18 + (1 : Int32))).bind fun h20 =>
some (v6, h20)
def fX9_apart (x0 : Int32) (x1 : Int32) : Option Int32 :=
if x1 ≤ x0 then
some (x0 - x1)
else
some (x1 - x0)
def fX9_becomes (h : XH) (x0 : Nat) (x1 : Int32) (x2 : Int32) : Option (Int32 × XH) :=
(xco h x0 9).bind fun _ =>
(fX9_records h x0).bind fun h2 =>
(xgR h2 x0 9 0).bind fun v4 =>
(xaI h2 v4 0 x1).bind fun v6 =>
(xgR h2 x0 9 0).bind fun v8 =>
(xsI h2 v8 0 x1 x2).bind fun h10 =>
some (v6, h10)
def fX9_cells (h : XH) (x0 : Nat) : Option Int32 :=
(xgR h x0 9 0).bind fun v1 =>
(xaI h v1 0 (0 : Int32)).bind fun v3 =>
some v3
def fX9_measure_J57 (h : XH) (x0 : Nat) (x1 : Int32) (x3 : Int32) : Option ((Bool × Int32) ⊕ Bool) :=
some (.inl (false, (x3 + (1 : Int32))))
def fX9_measure_b15 (h : XH) (x0 : Nat) (x1 : Int32) (x2 : Bool) (x3 : Int32) : Option ((Bool × Int32) ⊕ Bool) :=
(xco h x0 9).bind fun _ =>
(fX9_cells h x0).bind fun v2 =>
if v2 ≤ x3 then
some (.inr x2)
else
if x2 = true then
(xgR h x0 9 0).bind fun v4 =>
(xaI h v4 0 ((1 : Int32) + x3)).bind fun v6 =>
(xgR h x0 9 0).bind fun v8 =>
(xco h x0 9).bind fun _ =>
(fX9_cells h x0).bind fun v11 =>
if v11 = 0 then none else
(xaI h v8 0 ((1 : Int32) + (xrem (x3 + x1) v11))).bind fun v14 =>
if v6 = v14 then
some (.inl (true, (x3 + (1 : Int32))))
else
fX9_measure_J57 h x0 x1 x3
else
fX9_measure_J57 h x0 x1 x3
def fX9_measure_B15 (h : XH) (x0 : Nat) (x1 : Int32) (s : (Bool × Int32)) : Option ((Bool × Int32) ⊕ Bool) := fX9_measure_b15 h x0 x1 s.1 s.2
def fX9_measure_b4 (h : XH) (x0 : Nat) (x1 : Int32) (x2 : Bool) : Option ((Int32 × Bool) ⊕ Int32) :=
if x2 = true then
some (.inr x1)
else
(xloop (fX9_measure_B15 h x0 (x1 + (1 : Int32))) 5000 (true, (0 : Int32))).bind fun e16 =>
some (.inl ((x1 + (1 : Int32)), e16))
def fX9_measure_B4 (h : XH) (x0 : Nat) (s : (Int32 × Bool)) : Option ((Int32 × Bool) ⊕ Int32) := fX9_measure_b4 h x0 s.1 s.2
def fX9_measure (h : XH) (x0 : Nat) : Option Int32 :=
(xloop (fX9_measure_B4 h x0) 5000 ((0 : Int32), false)).bind fun e18 =>
some e18
def fX9_finds_J93 (h : XH) (x0 : Nat) (x1 : Int32) (x2 : Int32) (x3 : Int32) (x5 : Int32) : Option ((Bool × Int32) ⊕ Bool) :=
some (.inl (true, (x5 + (1 : Int32))))
def fX9_finds_b36 (h : XH) (x0 : Nat) (x1 : Int32) (x2 : Int32) (x3 : Int32) (x4 : Bool) (x5 : Int32) : Option ((Bool × Int32) ⊕ Bool) :=
(xgR h x0 9 0).bind fun v14 =>
(xaI h v14 0 (76 : Int32)).bind fun v16 =>
if v16 ≤ x5 then
some (.inr x4)
else
if x4 = true then
if x5 = x1 then
fX9_finds_J93 h x0 x1 x2 x3 x5
else
(xgR h x0 9 0).bind fun v18 =>
(xaI h v18 0 ((77 : Int32) + ((2 : Int32) * x5))).bind fun v20 =>
(xgR h x0 9 0).bind fun v22 =>
(xaI h v22 0 (((77 : Int32) + ((2 : Int32) * x5)) + (1 : Int32))).bind fun v24 =>
if x2 = 0 then none else
if (xrem ((x3 * v20) - v24) x2) = 0 then
fX9_finds_J93 h x0 x1 x2 x3 x5
else
some (.inl (false, (x5 + (1 : Int32))))
else
some (.inr x4)
def fX9_finds_B36 (h : XH) (x0 : Nat) (x1 : Int32) (x2 : Int32) (x3 : Int32) (s : (Bool × Int32)) : Option ((Bool × Int32) ⊕ Bool) := fX9_finds_b36 h x0 x1 x2 x3 s.1 s.2
def fX9_finds_b19 (x0 : Nat) (x1 : Int32) (x2 : Int32) (h : XH) (x3 : Int32) : Option ((XH × Int32) ⊕ XH) :=
(xgR h x0 9 0).bind fun v10 =>
(xaI h v10 0 (93 : Int32)).bind fun v12 =>
if v12 < x3 then
some (.inr h)
else
(xloop (fX9_finds_B36 h x0 x1 x2 x3) 5000 (true, (0 : Int32))).bind fun e27 =>
if e27 = true then
(xgR h x0 9 11).bind fun v29 =>
(xgI h x0 9 12).bind fun v31 =>
(xsI h v29 0 v31 x3).bind fun h33 =>
(xgI h33 x0 9 12).bind fun v35 =>
(xpf h33 x0 9 12 (.int (v35 + (1 : Int32)))).bind fun h37 =>
some (.inl (h37, (x3 + (1 : Int32))))
else
some (.inl (h, (x3 + (1 : Int32))))
def fX9_finds_B19 (x0 : Nat) (x1 : Int32) (x2 : Int32) (s : (XH × Int32)) : Option ((XH × Int32) ⊕ XH) := fX9_finds_b19 x0 x1 x2 s.1 s.2
def fX9_finds (h : XH) (x0 : Nat) (x1 : Int32) : Option XH :=
(xco h x0 9).bind fun _ =>
(fX9_measure h x0).bind fun v2 =>
(xpf h x0 9 12 (.int (0 : Int32))).bind fun h4 =>
(xgR h4 x0 9 0).bind fun v6 =>
(xaI h4 v6 0 (93 : Int32)).bind fun v8 =>
(xloop (fX9_finds_B19 x0 x1 v2) 5000 (h4, (-v8))).bind fun e39 =>
some e39
def fX9_in (x0 : Int32) (x1 : Int32) (x2 : Int32) : Option Bool :=
if x0 < x1 then
some false
else
if x2 < x0 then
some false
else
some true
def fX9_modulo (x0 : Int32) (x1 : Int32) : Option Int32 :=
if x1 = 0 then none else
if 0 ≤ (xrem x0 x1) then
some (xrem x0 x1)
else
some ((xrem x0 x1) + x1)
def fX9_restOf_b5 (x0 : Nat) (x1 : Int32) (x2 : Int32) (x3 : Int32) (h : XH) (x4 : Int32) : Option ((XH × Int32) ⊕ XH) :=
if x2 ≤ x4 then
some (.inr h)
else
(xgR h x0 9 13).bind fun v1 =>
(xsI h v1 0 x4 (0 : Int32)).bind fun h3 =>
some (.inl (h3, (x4 + (1 : Int32))))
def fX9_restOf_B5 (x0 : Nat) (x1 : Int32) (x2 : Int32) (x3 : Int32) (s : (XH × Int32)) : Option ((XH × Int32) ⊕ XH) := fX9_restOf_b5 x0 x1 x2 x3 s.1 s.2
def fX9_restOf_b28 (x0 : Nat) (x1 : Int32) (x2 : Int32) (h : XH) (x3 : Int32) (x4 : Int32) : Option ((XH × Int32 × Int32) ⊕ (XH × Int32)) :=
(xgI h x0 9 12).bind fun v7 =>
if v7 ≤ x4 then
some (.inr (h, x3))
else
(xgR h x0 9 11).bind fun v9 =>
(xaI h v9 0 x4).bind fun v11 =>
(fX9_modulo (v11 * x1) x2).bind fun v13 =>
(xgR h x0 9 13).bind fun v15 =>
(xaI h v15 0 v13).bind fun v17 =>
(xsI h v15 0 v13 (v17 + (1 : Int32))).bind fun h19 =>
(xgR h19 x0 9 13).bind fun v21 =>
(xaI h19 v21 0 v13).bind fun v23 =>
if v23 ≤ x3 then
some (.inl (h19, x3, (x4 + (1 : Int32))))
else
(xgR h19 x0 9 13).bind fun v25 =>
(xaI h19 v25 0 v13).bind fun v27 =>
some (.inl (h19, v27, (x4 + (1 : Int32))))
def fX9_restOf_B28 (x0 : Nat) (x1 : Int32) (x2 : Int32) (s : (XH × Int32 × Int32)) : Option ((XH × Int32 × Int32) ⊕ (XH × Int32)) := fX9_restOf_b28 x0 x1 x2 s.1 s.2.1 s.2.2
def fX9_restOf (h : XH) (x0 : Nat) (x1 : Int32) (x2 : Int32) : Option (Int32 × XH) :=
(xloop (fX9_restOf_B5 x0 x1 x2 (0 : Int32)) 5000 (h, (0 : Int32))).bind fun e5 =>
(xloop (fX9_restOf_B28 x0 x1 x2) 5000 (e5, (0 : Int32), (0 : Int32))).bind fun e29 =>
some (e29.2, e29.1)
def fX9_bestPeriod_J96 (h : XH) (x0 : Nat) (x1 : Int32) (x2 : Bool) (x3 : Int32) (x5 : Int32) (x6 : Int32) (x7 : Int32) (x8 : Bool) (s0 : Int32) : Option ((XH × Int32 × Int32 × Int32) ⊕ (XH × Int32 × Int32)) :=
if x8 = true then
some (.inl (h, s0, x7, (x6 + (1 : Int32))))
else
some (.inl (h, s0, x5, (x6 + (1 : Int32))))
def fX9_bestPeriod_J82 (h : XH) (x0 : Nat) (x1 : Int32) (x2 : Bool) (x3 : Int32) (x4 : Int32) (x5 : Int32) (x6 : Int32) (x7 : Int32) (s0 : Bool) : Option ((XH × Int32 × Int32 × Int32) ⊕ (XH × Int32 × Int32)) :=
if s0 = true then
fX9_bestPeriod_J96 h x0 x1 x2 x3 x5 x6 x7 s0 x6
else
fX9_bestPeriod_J96 h x0 x1 x2 x3 x5 x6 x7 s0 x4
def fX9_bestPeriod_J77 (h : XH) (x0 : Nat) (x1 : Int32) (x2 : Bool) (x3 : Int32) (x4 : Int32) (x5 : Int32) (x6 : Int32) (x7 : Int32) : Option ((XH × Int32 × Int32 × Int32) ⊕ (XH × Int32 × Int32)) :=
fX9_bestPeriod_J82 h x0 x1 x2 x3 x4 x5 x6 x7 true
def fX9_bestPeriod_b49 (x0 : Nat) (x1 : Int32) (x2 : Bool) (x3 : Int32) (h : XH) (x4 : Int32) (x5 : Int32) (x6 : Int32) : Option ((XH × Int32 × Int32 × Int32) ⊕ (XH × Int32 × Int32)) :=
if x1 < x6 then
some (.inr (h, x4, x5))
else
(xco h x0 9).bind fun _ =>
(fX9_restOf h x0 x6 x3).bind fun v12 =>
if x6 = (1 : Int32) then
fX9_bestPeriod_J77 v12.2 x0 x1 x2 x3 x4 x5 x6 v12.1
else
if x5 ≤ v12.1 then
fX9_bestPeriod_J82 v12.2 x0 x1 x2 x3 x4 x5 x6 v12.1 false
else
fX9_bestPeriod_J77 v12.2 x0 x1 x2 x3 x4 x5 x6 v12.1
def fX9_bestPeriod_B49 (x0 : Nat) (x1 : Int32) (x2 : Bool) (x3 : Int32) (s : (XH × Int32 × Int32 × Int32)) : Option ((XH × Int32 × Int32 × Int32) ⊕ (XH × Int32 × Int32)) := fX9_bestPeriod_b49 x0 x1 x2 x3 s.1 s.2.1 s.2.2.1 s.2.2.2
def fX9_bestPeriod (h : XH) (x0 : Nat) (x1 : Int32) (x2 : Bool) : Option (Int32 × XH) :=
(fX9_in x1 (1 : Int32) (500 : Int32)).bind fun v1 =>
if v1 = true then
(xco h x0 9).bind fun _ =>
(fX9_finds h x0 (-1004 : Int32)).bind fun h4 =>
(xgI h4 x0 9 12).bind fun v6 =>
if v6 = 0 then
some ((-1004 : Int32), h4)
else
(xco h4 x0 9).bind fun _ =>
(fX9_measure h4 x0).bind fun v9 =>
(xloop (fX9_bestPeriod_B49 x0 x1 x2 v9) 5000 (h4, (-1004 : Int32), (0 : Int32), (1 : Int32))).bind fun e14 =>
if x2 = true then
some (e14.2.2, e14.1)
else
some (e14.2.1, e14.1)
else
some ((-1001 : Int32), h)
def fX9_candidate (h : XH) (x0 : Nat) (x1 : Int32) : Option (Int32 × XH) :=
if 0 ≤ x1 then
(xco h x0 9).bind fun _ =>
(fX9_finds h x0 (-1004 : Int32)).bind fun h2 =>
(xgI h2 x0 9 12).bind fun v4 =>
if v4 ≤ x1 then
some ((-1004 : Int32), h2)
else
(xgR h2 x0 9 11).bind fun v6 =>
(xaI h2 v6 0 x1).bind fun v8 =>
some (v8, h2)
else
some ((-1001 : Int32), h)
def fX9_candidates (h : XH) (x0 : Nat) : Option (Int32 × XH) :=
(xco h x0 9).bind fun _ =>
(fX9_finds h x0 (-1004 : Int32)).bind fun h2 =>
(xgI h2 x0 9 12).bind fun v4 =>
some (v4, h2)
def fX9_tickOf (h : XH) (x0 : Nat) (x1 : Int32) : Option Int32 :=
(xgR h x0 9 0).bind fun v1 =>
(xaI h v1 0 ((64 : Int32) + ((2 : Int32) * x1))).bind fun v3 =>
some v3
def fX9_changeFrom_b2 (h : XH) (x0 : Nat) (x1 : Int32) (x2 : Int32) : Option (Int32 ⊕ Int32) :=
(xgR h x0 9 0).bind fun v1 =>
(xaI h v1 0 (63 : Int32)).bind fun v3 =>
if v3 ≤ x2 then
some (.inr x2)
else
(xco h x0 9).bind fun _ =>
(fX9_tickOf h x0 x2).bind fun v6 =>
if x1 ≤ v6 then
some (.inr x2)
else
some (.inl (x2 + (1 : Int32)))
def fX9_changeFrom_B2 (h : XH) (x0 : Nat) (x1 : Int32) (s : Int32) : Option (Int32 ⊕ Int32) := fX9_changeFrom_b2 h x0 x1 s
def fX9_changeFrom (h : XH) (x0 : Nat) (x1 : Int32) : Option Int32 :=
(xloop (fX9_changeFrom_B2 h x0 x1) 5000 (0 : Int32)).bind fun e8 =>
some e8
def fX9_clearText (h : XH) (x0 : Nat) : Option (Int32 × XH) :=
(xgI h x0 9 5).bind fun v1 =>
(xpf h x0 9 5 (.int (0 : Int32))).bind fun h3 =>
some (v1, h3)
def fX9_flashes (h : XH) (x0 : Nat) : Option Int32 :=
(xgR h x0 9 0).bind fun v1 =>
(xaI h v1 0 (74 : Int32)).bind fun v3 =>
(xgR h x0 9 0).bind fun v5 =>
(xaI h v5 0 (75 : Int32)).bind fun v7 =>
if v7 = 0 then none else
some ((((1000 : Int32) - v3) / v7) + (1 : Int32))
def fX9_isOpen (h : XH) (x0 : Nat) (x1 : Int32) : Option Bool :=
(xgR h x0 9 0).bind fun v1 =>
(xaI h v1 0 (94 : Int32)).bind fun v3 =>
(xgR h x0 9 0).bind fun v5 =>
(xaI h v5 0 (96 : Int32)).bind fun v7 =>
(xgR h x0 9 0).bind fun v9 =>
(xaI h v9 0 (97 : Int32)).bind fun v11 =>
(fX9_modulo (v7 + (v11 * x1)) v3).bind fun v13 =>
if v3 = 0 then none else
(xgR h x0 9 0).bind fun v16 =>
(xaI h v16 0 (95 : Int32)).bind fun v18 =>
if ((v18 >>> ((xrem (v3 - v13) v3) &&& 31)) &&& (1 : Int32)) = (1 : Int32) then
some true
else
some false
def fX9_goesTo_J50 (h : XH) (x0 : Nat) (x1 : Int32) (x2 : Int32) (x4 : Int32) (x5 : Bool) : Option ((XH × Int32 × Bool × Int32) ⊕ ((XH × Int32) ⊕ (XH × Int32))) :=
if x5 = true then
(xpf h x0 9 15 (.int x4)).bind fun h8 =>
some (.inl (h8, x2, x5, (x4 + (1 : Int32))))
else
(xgI h x0 9 15).bind fun v4 =>
(xpf h x0 9 15 (.int v4)).bind fun h6 =>
some (.inl (h6, x2, x5, (x4 + (1 : Int32))))
def fX9_goesTo_b7 (x0 : Nat) (x1 : Int32) (h : XH) (x2 : Int32) (x3 : Bool) (x4 : Int32) : Option ((XH × Int32 × Bool × Int32) ⊕ ((XH × Int32) ⊕ (XH × Int32))) :=
if (1000 : Int32) < x4 then
some (.inr (.inr (h, x2)))
else
(xco h x0 9).bind fun _ =>
(fX9_isOpen h x0 x4).bind fun v2 =>
if v2 = true then
if x3 = true then
fX9_goesTo_J50 h x0 x1 x2 x4 v2
else
if (x2 - (1 : Int32)) = x1 then
some (.inr (.inl (h, x2)))
else
(xpf h x0 9 14 (.int x4)).bind fun h10 =>
fX9_goesTo_J50 h10 x0 x1 (x2 + (1 : Int32)) x4 v2
else
fX9_goesTo_J50 h x0 x1 x2 x4 v2
def fX9_goesTo_B7 (x0 : Nat) (x1 : Int32) (s : (XH × Int32 × Bool × Int32)) : Option ((XH × Int32 × Bool × Int32) ⊕ ((XH × Int32) ⊕ (XH × Int32))) := fX9_goesTo_b7 x0 x1 s.1 s.2.1 s.2.2.1 s.2.2.2
def fX9_goesTo (h : XH) (x0 : Nat) (x1 : Int32) : Option (Int32 × XH) :=
(xloop (fX9_goesTo_B7 x0 x1) 5000 (h, (0 : Int32), false, (0 : Int32))).bind fun e12 =>
(match e12 with
| .inl e12 =>
some (e12.2, e12.1)
| .inr e12 =>
some (e12.2, e12.1)
)
def fX9_marks_b4 (h : XH) (x0 : Nat) (x1 : Int32) (x2 : Int32) : Option ((Int32 × Int32) ⊕ Int32) :=
(xco h x0 9).bind fun _ =>
(fX9_cells h x0).bind fun v2 =>
if v2 ≤ x2 then
some (.inr x1)
else
(xgR h x0 9 0).bind fun v4 =>
(xaI h v4 0 ((1 : Int32) + x2)).bind fun v6 =>
if v6 ≤ 0 then
some (.inl ((x1 + (0 : Int32)), (x2 + (1 : Int32))))
else
some (.inl ((x1 + (1 : Int32)), (x2 + (1 : Int32))))
def fX9_marks_B4 (h : XH) (x0 : Nat) (s : (Int32 × Int32)) : Option ((Int32 × Int32) ⊕ Int32) := fX9_marks_b4 h x0 s.1 s.2
def fX9_marks (h : XH) (x0 : Nat) : Option Int32 :=
(xloop (fX9_marks_B4 h x0) 5000 ((0 : Int32), (0 : Int32))).bind fun e8 =>
some e8
def fX9_count_J103 (h : XH) (x0 : Nat) (x1 : Int32) : Option (Int32 × XH) :=
(xgR h x0 9 0).bind fun v28 =>
(xaI h v28 0 (((61 : Int32) + x1) - (3 : Int32))).bind fun v30 =>
some (v30, h)
def fX9_count_J115 (h : XH) (x0 : Nat) (x1 : Int32) : Option (Int32 × XH) :=
(xgR h x0 9 0).bind fun v32 =>
(xaI h v32 0 (((74 : Int32) + x1) - (6 : Int32))).bind fun v34 =>
some (v34, h)
def fX9_count_J141 (h : XH) (x0 : Nat) (x1 : Int32) : Option (Int32 × XH) :=
(xgR h x0 9 0).bind fun v43 =>
(xaI h v43 0 (((93 : Int32) + x1) - (10 : Int32))).bind fun v45 =>
some (v45, h)
def fX9_count (h : XH) (x0 : Nat) (x1 : Int32) : Option (Int32 × XH) :=
if x1 = 0 then
(xco h x0 9).bind fun _ =>
(fX9_cells h x0).bind fun v20 =>
some (v20, h)
else
if x1 = 1 then
(xco h x0 9).bind fun _ =>
(fX9_marks h x0).bind fun v23 =>
some (v23, h)
else
if x1 = 2 then
(xco h x0 9).bind fun _ =>
(fX9_measure h x0).bind fun v26 =>
some (v26, h)
else
if x1 = 3 then
fX9_count_J103 h x0 x1
else
if x1 = 4 then
fX9_count_J103 h x0 x1
else
if x1 = 5 then
fX9_count_J103 h x0 x1
else
if x1 = 6 then
fX9_count_J115 h x0 x1
else
if x1 = 7 then
fX9_count_J115 h x0 x1
else
if x1 = 8 then
(xco h x0 9).bind fun _ =>
(fX9_flashes h x0).bind fun v37 =>
some (v37, h)
else
if x1 = 9 then
(xgR h x0 9 0).bind fun v39 =>
(xaI h v39 0 (76 : Int32)).bind fun v41 =>
some (v41, h)
else
if x1 = 10 then
fX9_count_J141 h x0 x1
else
if x1 = 11 then
fX9_count_J141 h x0 x1
else
if x1 = 12 then
fX9_count_J141 h x0 x1
else
if x1 = 13 then
fX9_count_J141 h x0 x1
else
if x1 = 14 then
fX9_count_J141 h x0 x1
else
if x1 = 15 then
(xco h x0 9).bind fun _ =>
(fX9_goesTo h x0 (-1004 : Int32)).bind fun v48 =>
some (v48.1, v48.2)
else
if x1 = 16 then
(xgI h x0 9 5).bind fun v50 =>
some (v50, h)
else
if x1 = 17 then
(xgI h x0 9 1).bind fun v52 =>
some (v52, h)
else
some ((-1001 : Int32), h)
def fX9_stepOf (h : XH) (x0 : Nat) (x1 : Int32) (x2 : Int32) : Option Int32 :=
(xgR h x0 9 2).bind fun v1 =>
(xaI h v1 0 x2).bind fun v3 =>
(xgR h x0 9 2).bind fun v5 =>
(xaI h v5 0 x1).bind fun v7 =>
(xgI h x0 9 3).bind fun v9 =>
(fX9_modulo (v3 - v7) v9).bind fun v11 =>
(xgI h x0 9 3).bind fun v13 =>
if v13 < ((2 : Int32) * v11) then
(xgI h x0 9 3).bind fun v15 =>
some (v11 - v15)
else
some v11
def fX9_isSamePicture (h : XH) (x0 : Nat) (x1 : Int32) (x2 : Int32) : Option Bool :=
(xco h x0 9).bind fun _ =>
(fX9_stepOf h x0 x1 x2).bind fun v2 =>
if v2 = 0 then
some true
else
some false
def fX9_tickOfFlash (h : XH) (x0 : Nat) (x1 : Int32) : Option Int32 :=
(xgR h x0 9 0).bind fun v1 =>
(xaI h v1 0 (74 : Int32)).bind fun v3 =>
(xgR h x0 9 0).bind fun v5 =>
(xaI h v5 0 (75 : Int32)).bind fun v7 =>
some (v3 + (x1 * v7))
def fX9_earliest_b2 (h : XH) (x0 : Nat) (x1 : Int32) (x2 : Int32) : Option (Int32 ⊕ Int32) :=
(xco h x0 9).bind fun _ =>
(fX9_tickOfFlash h x0 x2).bind fun v2 =>
(xco h x0 9).bind fun _ =>
(fX9_tickOfFlash h x0 x1).bind fun v5 =>
(xco h x0 9).bind fun _ =>
(fX9_isSamePicture h x0 v2 v5).bind fun v8 =>
if v8 = true then
some (.inr x2)
else
some (.inl (x2 + (1 : Int32)))
def fX9_earliest_B2 (h : XH) (x0 : Nat) (x1 : Int32) (s : Int32) : Option (Int32 ⊕ Int32) := fX9_earliest_b2 h x0 x1 s
def fX9_earliest (h : XH) (x0 : Nat) (x1 : Int32) : Option Int32 :=
(xloop (fX9_earliest_B2 h x0 x1) 5000 (0 : Int32)).bind fun e10 =>
some e10
def fX9_isFlash (h : XH) (x0 : Nat) (x1 : Int32) : Option Bool :=
(xco h x0 9).bind fun _ =>
(fX9_flashes h x0).bind fun v2 =>
(fX9_in x1 (0 : Int32) (v2 - (1 : Int32))).bind fun v4 =>
some v4
def fX9_laysTurns_J84 (h : XH) (x0 : Nat) (x1 : Int32) (x2 : Int32) (x3 : Int32) : Option ((XH × Int32 × Int32 × Int32) ⊕ XH) :=
(xgR h x0 9 2).bind fun v27 =>
(xgR h x0 9 2).bind fun v29 =>
(xaI h v29 0 x3).bind fun v31 =>
(xco h x0 9).bind fun _ =>
(fX9_cells h x0).bind fun v34 =>
(fX9_modulo (v31 + x2) v34).bind fun v36 =>
(xsI h v27 0 (x3 + (1 : Int32)) v36).bind fun h38 =>
some (.inl (h38, x1, x2, (x3 + (1 : Int32))))
def fX9_laysTurns_b40 (x0 : Nat) (h : XH) (x1 : Int32) (x2 : Int32) (x3 : Int32) : Option ((XH × Int32 × Int32 × Int32) ⊕ XH) :=
if (1000 : Int32) ≤ x3 then
some (.inr h)
else
(xgR h x0 9 0).bind fun v23 =>
(xaI h v23 0 (63 : Int32)).bind fun v25 =>
if v25 ≤ x1 then
fX9_laysTurns_J84 h x0 x1 x2 x3
else
(xco h x0 9).bind fun _ =>
(fX9_tickOf h x0 x1).bind fun v41 =>
if v41 = x3 then
(xgR h x0 9 0).bind fun v43 =>
(xaI h v43 0 (((64 : Int32) + ((2 : Int32) * x1)) + (1 : Int32))).bind fun v45 =>
fX9_laysTurns_J84 h x0 (x1 + (1 : Int32)) v45 x3
else
fX9_laysTurns_J84 h x0 x1 x2 x3
def fX9_laysTurns_B40 (x0 : Nat) (s : (XH × Int32 × Int32 × Int32)) : Option ((XH × Int32 × Int32 × Int32) ⊕ XH) := fX9_laysTurns_b40 x0 s.1 s.2.1 s.2.2.1 s.2.2.2
def fX9_laysTurns (h : XH) (x0 : Nat) : Option XH :=
(xgR h x0 9 0).bind fun v1 =>
(xaI h v1 0 (62 : Int32)).bind fun v3 =>
(xco h x0 9).bind fun _ =>
(fX9_measure h x0).bind fun v6 =>
(xpf h x0 9 3 (.int v6)).bind fun h8 =>
(xgR h8 x0 9 2).bind fun v10 =>
(xgR h8 x0 9 0).bind fun v12 =>
(xaI h8 v12 0 (61 : Int32)).bind fun v14 =>
(xco h8 x0 9).bind fun _ =>
(fX9_cells h8 x0).bind fun v17 =>
(fX9_modulo v14 v17).bind fun v19 =>
(xsI h8 v10 0 (0 : Int32) v19).bind fun h21 =>
(xloop (fX9_laysTurns_B40 x0) 5000 (h21, (0 : Int32), v3, (0 : Int32))).bind fun e47 =>
some e47
def fX9_stepBehind (h : XH) (x0 : Nat) (x1 : Int32) : Option Int32 :=
(xco h x0 9).bind fun _ =>
(fX9_flashes h x0).bind fun v2 =>
if x1 = (v2 - (1 : Int32)) then
some (-1004 : Int32)
else
(xco h x0 9).bind fun _ =>
(fX9_tickOfFlash h x0 x1).bind fun v5 =>
(xco h x0 9).bind fun _ =>
(fX9_tickOfFlash h x0 (x1 + (1 : Int32))).bind fun v8 =>
(xco h x0 9).bind fun _ =>
(fX9_stepOf h x0 v5 v8).bind fun v11 =>
some v11
def fX9_flash (h : XH) (x0 : Nat) (x1 : Int32) (x2 : Int32) : Option (Int32 × XH) :=
(xco h x0 9).bind fun _ =>
(fX9_isFlash h x0 x1).bind fun v2 =>
if v2 = true then
(fX9_in x2 (0 : Int32) (3 : Int32)).bind fun v4 =>
if v4 = true then
(xco h x0 9).bind fun _ =>
(fX9_laysTurns h x0).bind fun h7 =>
if x2 = 0 then
(xco h7 x0 9).bind fun _ =>
(fX9_tickOfFlash h7 x0 x1).bind fun v13 =>
some (v13, h7)
else
if x2 = 1 then
(xgR h7 x0 9 2).bind fun v15 =>
(xco h7 x0 9).bind fun _ =>
(fX9_tickOfFlash h7 x0 x1).bind fun v18 =>
(xaI h7 v15 0 v18).bind fun v20 =>
some (v20, h7)
else
if x2 = 2 then
(xco h7 x0 9).bind fun _ =>
(fX9_stepBehind h7 x0 x1).bind fun v23 =>
some (v23, h7)
else
(xco h7 x0 9).bind fun _ =>
(fX9_earliest h7 x0 x1).bind fun v26 =>
some (v26, h7)
else
some ((-1001 : Int32), h)
else
some ((-1001 : Int32), h)
def fX9_isCell (h : XH) (x0 : Nat) (x1 : Int32) : Option Bool :=
(xco h x0 9).bind fun _ =>
(fX9_cells h x0).bind fun v2 =>
(fX9_in x1 (0 : Int32) (v2 - (1 : Int32))).bind fun v4 =>
some v4
def fX9_isTick (x0 : Int32) : Option Bool :=
(fX9_in x0 (0 : Int32) (1000 : Int32)).bind fun v1 =>
some v1
def fX9_seenAt (h : XH) (x0 : Nat) (x1 : Int32) (x2 : Int32) : Option Int32 :=
(xgR h x0 9 0).bind fun v1 =>
(xgR h x0 9 2).bind fun v3 =>
(xaI h v3 0 x1).bind fun v5 =>
(xco h x0 9).bind fun _ =>
(fX9_cells h x0).bind fun v8 =>
(fX9_modulo (x2 - v5) v8).bind fun v10 =>
(xaI h v1 0 ((1 : Int32) + v10)).bind fun v12 =>
some v12
def fX9_markAt (h : XH) (x0 : Nat) (x1 : Int32) (x2 : Int32) : Option (Int32 × XH) :=
(fX9_isTick x1).bind fun v1 =>
if v1 = true then
(xco h x0 9).bind fun _ =>
(fX9_isCell h x0 x2).bind fun v4 =>
if v4 = true then
(xco h x0 9).bind fun _ =>
(fX9_laysTurns h x0).bind fun h7 =>
(xco h7 x0 9).bind fun _ =>
(fX9_seenAt h7 x0 x1 x2).bind fun v10 =>
some (v10, h7)
else
some ((-1001 : Int32), h)
else
some ((-1001 : Int32), h)
def fX9_mixes (h : XH) (x0 : Nat) (x1 : Int32) : Option XH :=
(xgJ h x0 9 16).bind fun v1 =>
(xpf h x0 9 16 (.long (((31 : Int64) * v1) + (x1.toInt64)))).bind fun h3 =>
some h3
def fX9_nearest_J89 (h : XH) (x0 : Nat) (x1 : Int32) (x3 : Int32) (x4 : Int32) (x5 : Int32) (x6 : Bool) (s0 : Int32) : Option ((Int32 × Int32 × Int32) ⊕ Int32) :=
if x6 = true then
some (.inl (s0, x5, (x4 + (1 : Int32))))
else
some (.inl (s0, x3, (x4 + (1 : Int32))))
def fX9_nearest_J71 (h : XH) (x0 : Nat) (x1 : Int32) (x2 : Int32) (x3 : Int32) (x4 : Int32) (x5 : Int32) (s0 : Bool) : Option ((Int32 × Int32 × Int32) ⊕ Int32) :=
if s0 = true then
(xgR h x0 9 11).bind fun v14 =>
(xaI h v14 0 x4).bind fun v16 =>
fX9_nearest_J89 h x0 x1 x3 x4 x5 s0 v16
else
fX9_nearest_J89 h x0 x1 x3 x4 x5 s0 x2
def fX9_nearest_J66 (h : XH) (x0 : Nat) (x1 : Int32) (x2 : Int32) (x3 : Int32) (x4 : Int32) (x5 : Int32) : Option ((Int32 × Int32 × Int32) ⊕ Int32) :=
fX9_nearest_J71 h x0 x1 x2 x3 x4 x5 true
def fX9_nearest_b33 (h : XH) (x0 : Nat) (x1 : Int32) (x2 : Int32) (x3 : Int32) (x4 : Int32) : Option ((Int32 × Int32 × Int32) ⊕ Int32) :=
(xgI h x0 9 12).bind fun v6 =>
if v6 ≤ x4 then
some (.inr x2)
else
(xgR h x0 9 11).bind fun v8 =>
(xaI h v8 0 x4).bind fun v10 =>
(fX9_apart v10 x1).bind fun v12 =>
if x4 = 0 then
fX9_nearest_J66 h x0 x1 x2 x3 x4 v12
else
if x3 ≤ v12 then
fX9_nearest_J71 h x0 x1 x2 x3 x4 v12 false
else
fX9_nearest_J66 h x0 x1 x2 x3 x4 v12
def fX9_nearest_B33 (h : XH) (x0 : Nat) (x1 : Int32) (s : (Int32 × Int32 × Int32)) : Option ((Int32 × Int32 × Int32) ⊕ Int32) := fX9_nearest_b33 h x0 x1 s.1 s.2.1 s.2.2
def fX9_nearest (h : XH) (x0 : Nat) (x1 : Int32) : Option (Int32 × XH) :=
(fX9_in x1 (-1000 : Int32) (1000 : Int32)).bind fun v1 =>
if v1 = true then
(xco h x0 9).bind fun _ =>
(fX9_finds h x0 (-1004 : Int32)).bind fun h4 =>
(xloop (fX9_nearest_B33 h4 x0 x1) 5000 ((-1004 : Int32), (0 : Int32), (0 : Int32))).bind fun e18 =>
some (e18, h4)
else
some ((-1001 : Int32), h)
def fX9_isReading (h : XH) (x0 : Nat) (x1 : Int32) : Option Bool :=
(xgR h x0 9 0).bind fun v1 =>
(xaI h v1 0 (76 : Int32)).bind fun v3 =>
(fX9_in x1 (0 : Int32) (v3 - (1 : Int32))).bind fun v5 =>
some v5
def fX9_reading (h : XH) (x0 : Nat) (x1 : Int32) (x2 : Int32) : Option (Int32 × XH) :=
(xco h x0 9).bind fun _ =>
(fX9_isReading h x0 x1).bind fun v2 =>
if v2 = true then
(fX9_in x2 (0 : Int32) (2 : Int32)).bind fun v4 =>
if v4 = true then
if (2 : Int32) ≤ x2 then
(xco h x0 9).bind fun _ =>
(fX9_finds h x0 x1).bind fun h7 =>
(xgI h7 x0 9 12).bind fun v9 =>
some (v9, h7)
else
(xgR h x0 9 0).bind fun v11 =>
(xaI h v11 0 (((77 : Int32) + ((2 : Int32) * x1)) + x2)).bind fun v13 =>
some (v13, h)
else
some ((-1001 : Int32), h)
else
some ((-1001 : Int32), h)
def fX9_mixesReadings_b15 (x0 : Nat) (x1 : Int32) (h : XH) (x2 : Int32) : Option ((XH × Int32) ⊕ XH) :=
if (3 : Int32) ≤ x2 then
some (.inr h)
else
(xco h x0 9).bind fun _ =>
(fX9_reading h x0 x1 x2).bind fun v6 =>
(xco v6.2 x0 9).bind fun _ =>
(fX9_mixes v6.2 x0 v6.1).bind fun h9 =>
some (.inl (h9, (x2 + (1 : Int32))))
def fX9_mixesReadings_B15 (x0 : Nat) (x1 : Int32) (s : (XH × Int32)) : Option ((XH × Int32) ⊕ XH) := fX9_mixesReadings_b15 x0 x1 s.1 s.2
def fX9_mixesReadings_b2 (x0 : Nat) (h : XH) (x1 : Int32) : Option ((XH × Int32) ⊕ XH) :=
(xgR h x0 9 0).bind fun v1 =>
(xaI h v1 0 (76 : Int32)).bind fun v3 =>
if v3 ≤ x1 then
some (.inr h)
else
(xloop (fX9_mixesReadings_B15 x0 x1) 5000 (h, (0 : Int32))).bind fun e11 =>
some (.inl (e11, (x1 + (1 : Int32))))
def fX9_mixesReadings_B2 (x0 : Nat) (s : (XH × Int32)) : Option ((XH × Int32) ⊕ XH) := fX9_mixesReadings_b2 x0 s.1 s.2
def fX9_mixesReadings_b52 (x0 : Nat) (h : XH) (x1 : Int32) : Option ((XH × Int32) ⊕ XH) :=
if (5 : Int32) ≤ x1 then
some (.inr h)
else
(xco h x0 9).bind fun _ =>
(fX9_candidate h x0 x1).bind fun v22 =>
(xco v22.2 x0 9).bind fun _ =>
(fX9_mixes v22.2 x0 v22.1).bind fun h25 =>
some (.inl (h25, (x1 + (1 : Int32))))
def fX9_mixesReadings_B52 (x0 : Nat) (s : (XH × Int32)) : Option ((XH × Int32) ⊕ XH) := fX9_mixesReadings_b52 x0 s.1 s.2
def fX9_mixesReadings (h : XH) (x0 : Nat) : Option XH :=
(xloop (fX9_mixesReadings_B2 x0) 5000 (h, (0 : Int32))).bind fun e13 =>
(xco e13 x0 9).bind fun _ =>
(fX9_candidates e13 x0).bind fun v16 =>
(xco v16.2 x0 9).bind fun _ =>
(fX9_mixes v16.2 x0 v16.1).bind fun h19 =>
(xloop (fX9_mixesReadings_B52 x0) 5000 (h19, (0 : Int32))).bind fun e27 =>
(xco e27 x0 9).bind fun _ =>
(fX9_nearest e27 x0 (0 : Int32)).bind fun v30 =>
(xco v30.2 x0 9).bind fun _ =>
(fX9_mixes v30.2 x0 v30.1).bind fun h33 =>
(xco h33 x0 9).bind fun _ =>
(fX9_bestPeriod h33 x0 (20 : Int32) false).bind fun v36 =>
(xco v36.2 x0 9).bind fun _ =>
(fX9_mixes v36.2 x0 v36.1).bind fun h39 =>
(xco h39 x0 9).bind fun _ =>
(fX9_bestPeriod h39 x0 (20 : Int32) true).bind fun v42 =>
(xco v42.2 x0 9).bind fun _ =>
(fX9_mixes v42.2 x0 v42.1).bind fun h45 =>
some h45
def fX9_isStill_J49 (h : XH) (x0 : Nat) (x1 : Int32) (x3 : Int32) : Option ((Bool × Int32) ⊕ Bool) :=
some (.inl (false, (x3 + (1 : Int32))))
def fX9_isStill_b12 (h : XH) (x0 : Nat) (x1 : Int32) (x2 : Bool) (x3 : Int32) : Option ((Bool × Int32) ⊕ Bool) :=
(xgI h x0 9 15).bind fun v6 =>
if v6 < x3 then
some (.inr x2)
else
if x2 = true then
(xgR h x0 9 2).bind fun v8 =>
(xaI h v8 0 x3).bind fun v10 =>
(xgR h x0 9 2).bind fun v12 =>
(xgI h x0 9 14).bind fun v14 =>
(xaI h v12 0 v14).bind fun v16 =>
if x1 = 0 then none else
if (xrem (v10 - v16) x1) = 0 then
some (.inl (true, (x3 + (1 : Int32))))
else
fX9_isStill_J49 h x0 x1 x3
else
fX9_isStill_J49 h x0 x1 x3
def fX9_isStill_B12 (h : XH) (x0 : Nat) (x1 : Int32) (s : (Bool × Int32)) : Option ((Bool × Int32) ⊕ Bool) := fX9_isStill_b12 h x0 x1 s.1 s.2
def fX9_isStill (h : XH) (x0 : Nat) : Option Bool :=
(xco h x0 9).bind fun _ =>
(fX9_measure h x0).bind fun v2 =>
(xgI h x0 9 14).bind fun v4 =>
(xloop (fX9_isStill_B12 h x0 v2) 5000 (true, v4)).bind fun e19 =>
some e19
def fX9_smearAt_b7 (h : XH) (x0 : Nat) (x1 : Int32) (x2 : Int32) (x3 : Int32) : Option ((Int32 × Int32) ⊕ Int32) :=
(xgI h x0 9 15).bind fun v3 =>
if v3 < x3 then
some (.inr x2)
else
(xco h x0 9).bind fun _ =>
(fX9_seenAt h x0 x3 x1).bind fun v6 =>
if v6 ≤ 0 then
some (.inl ((x2 ||| (0 : Int32)), (x3 + (1 : Int32))))
else
xlet (x2 ||| ((1 : Int32) <<< ((v6 - (1 : Int32)) &&& 31))) fun y8 =>
some (.inl (y8, (x3 + (1 : Int32))))
def fX9_smearAt_B7 (h : XH) (x0 : Nat) (x1 : Int32) (s : (Int32 × Int32)) : Option ((Int32 × Int32) ⊕ Int32) := fX9_smearAt_b7 h x0 x1 s.1 s.2
def fX9_smearAt (h : XH) (x0 : Nat) (x1 : Int32) : Option Int32 :=
(xgI h x0 9 14).bind fun v1 =>
(xloop (fX9_smearAt_B7 h x0 x1) 5000 ((0 : Int32), v1)).bind fun e9 =>
some e9
def fX9_smeared_b4 (h : XH) (x0 : Nat) (x1 : Int32) (x2 : Int32) : Option ((Int32 × Int32) ⊕ Int32) :=
(xco h x0 9).bind fun _ =>
(fX9_cells h x0).bind fun v2 =>
if v2 ≤ x2 then
some (.inr x1)
else
(xco h x0 9).bind fun _ =>
(fX9_smearAt h x0 x2).bind fun v5 =>
if (v5 &&& (v5 - (1 : Int32))) = 0 then
some (.inl ((x1 + (0 : Int32)), (x2 + (1 : Int32))))
else
some (.inl ((x1 + (1 : Int32)), (x2 + (1 : Int32))))
def fX9_smeared_B4 (h : XH) (x0 : Nat) (s : (Int32 × Int32)) : Option ((Int32 × Int32) ⊕ Int32) := fX9_smeared_b4 h x0 s.1 s.2
def fX9_smeared (h : XH) (x0 : Nat) : Option Int32 :=
(xloop (fX9_smeared_B4 h x0) 5000 ((0 : Int32), (0 : Int32))).bind fun e7 =>
some e7
def fX9_opening (h : XH) (x0 : Nat) (x1 : Int32) (x2 : Int32) : Option (Int32 × XH) :=
if x1 < 0 then
some ((-1001 : Int32), h)
else
(fX9_in x2 (0 : Int32) (3 : Int32)).bind fun v1 =>
if v1 = true then
(xco h x0 9).bind fun _ =>
(fX9_goesTo h x0 x1).bind fun v4 =>
if x1 < v4.1 then
(xco v4.2 x0 9).bind fun _ =>
(fX9_laysTurns v4.2 x0).bind fun h7 =>
if x2 = 0 then
(xgI h7 x0 9 14).bind fun v12 =>
some (v12, h7)
else
if x2 = 1 then
(xgI h7 x0 9 15).bind fun v14 =>
(xgI h7 x0 9 14).bind fun v16 =>
some (((v14 - v16) + (1 : Int32)), h7)
else
if x2 = 2 then
(xco h7 x0 9).bind fun _ =>
(fX9_smeared h7 x0).bind fun v19 =>
some (v19, h7)
else
(xco h7 x0 9).bind fun _ =>
(fX9_isStill h7 x0).bind fun v22 =>
if v22 = true then
some ((1 : Int32), h7)
else
some ((0 : Int32), h7)
else
some ((-1004 : Int32), v4.2)
else
some ((-1001 : Int32), h)
def fX9_pictures_b9 (x0 : Nat) (x1 : Int32) (x2 : Int32) (h : XH) (x3 : Int32) : Option ((XH × Int32) ⊕ XH) :=
if (60 : Int32) ≤ x3 then
some (.inr h)
else
(xgR h x0 9 10).bind fun v4 =>
(xsI h v4 1 x3 (vp_nar .boolean (0 : Int32))).bind fun h6 =>
some (.inl (h6, (x3 + (1 : Int32))))
def fX9_pictures_B9 (x0 : Nat) (x1 : Int32) (x2 : Int32) (s : (XH × Int32)) : Option ((XH × Int32) ⊕ XH) := fX9_pictures_b9 x0 x1 x2 s.1 s.2
def fX9_pictures_J68 (h : XH) (x0 : Nat) (x1 : Int32) (x3 : Int32) (x4 : Int32) (s0 : Int32) (s1 : Bool) : Option ((XH × Int32 × Int32) ⊕ (XH × Int32)) :=
(xgR h x0 9 10).bind fun v25 =>
(xsI h v25 1 x4 (vp_nar .boolean (1 : Int32))).bind fun h27 =>
some (.inl (h27, (s0 + (xbi s1)), (x3 + (1 : Int32))))
def fX9_pictures_b30 (x0 : Nat) (x1 : Int32) (h : XH) (x2 : Int32) (x3 : Int32) : Option ((XH × Int32 × Int32) ⊕ (XH × Int32)) :=
(xco h x0 9).bind fun _ =>
(fX9_flashes h x0).bind fun v11 =>
if v11 ≤ x3 then
some (.inr (h, x2))
else
(xgR h x0 9 2).bind fun v13 =>
(xco h x0 9).bind fun _ =>
(fX9_tickOfFlash h x0 x3).bind fun v16 =>
(xaI h v13 0 v16).bind fun v18 =>
if x1 = 0 then none else
(xgR h x0 9 10).bind fun v21 =>
(xaI h v21 1 (xrem v18 x1)).bind fun v23 =>
if v23 = 0 then
fX9_pictures_J68 h x0 x1 x3 (xrem v18 x1) x2 true
else
fX9_pictures_J68 h x0 x1 x3 (xrem v18 x1) x2 false
def fX9_pictures_B30 (x0 : Nat) (x1 : Int32) (s : (XH × Int32 × Int32)) : Option ((XH × Int32 × Int32) ⊕ (XH × Int32)) := fX9_pictures_b30 x0 x1 s.1 s.2.1 s.2.2
def fX9_pictures (h : XH) (x0 : Nat) : Option (Int32 × XH) :=
(xco h x0 9).bind fun _ =>
(fX9_measure h x0).bind fun v2 =>
(xloop (fX9_pictures_B9 x0 v2 (0 : Int32)) 5000 (h, (0 : Int32))).bind fun e8 =>
(xloop (fX9_pictures_B30 x0 v2) 5000 (e8, (0 : Int32), (0 : Int32))).bind fun e29 =>
some (e29.2, e29.1)
def fX9_seems_J83 (h : XH) (x0 : Nat) (x1 : Int32) (x3 : Int32) (s0 : Int32) : Option ((Int32 × Int32) ⊕ Int32) :=
some (.inl ((s0 + (0 : Int32)), (x3 + (1 : Int32))))
def fX9_seems_J79 (h : XH) (x0 : Nat) (x1 : Int32) (x3 : Int32) (s0 : Int32) : Option ((Int32 × Int32) ⊕ Int32) :=
some (.inl ((s0 + (1 : Int32)), (x3 + (1 : Int32))))
def fX9_seems_b31 (h : XH) (x0 : Nat) (x1 : Int32) (x2 : Int32) (x3 : Int32) : Option ((Int32 × Int32) ⊕ Int32) :=
(xco h x0 9).bind fun _ =>
(fX9_flashes h x0).bind fun v7 =>
if v7 ≤ (x3 + (1 : Int32)) then
some (.inr x2)
else
(xco h x0 9).bind fun _ =>
(fX9_stepBehind h x0 x3).bind fun v10 =>
if x1 = 0 then
if v10 = 0 then
fX9_seems_J79 h x0 x1 x3 x2
else
fX9_seems_J83 h x0 x1 x3 x2
else
if x1 = (1 : Int32) then
if v10 ≤ 0 then
fX9_seems_J83 h x0 x1 x3 x2
else
fX9_seems_J79 h x0 x1 x3 x2
else
if 0 ≤ v10 then
fX9_seems_J83 h x0 x1 x3 x2
else
fX9_seems_J79 h x0 x1 x3 x2
def fX9_seems_B31 (h : XH) (x0 : Nat) (x1 : Int32) (s : (Int32 × Int32)) : Option ((Int32 × Int32) ⊕ Int32) := fX9_seems_b31 h x0 x1 s.1 s.2
def fX9_seems (h : XH) (x0 : Nat) (x1 : Int32) : Option (Int32 × XH) :=
(fX9_in x1 (0 : Int32) (3 : Int32)).bind fun v1 =>
if v1 = true then
(xco h x0 9).bind fun _ =>
(fX9_laysTurns h x0).bind fun h4 =>
if x1 = (3 : Int32) then
(xco h4 x0 9).bind fun _ =>
(fX9_pictures h4 x0).bind fun v15 =>
some (v15.1, v15.2)
else
(xloop (fX9_seems_B31 h4 x0 x1) 5000 ((0 : Int32), (0 : Int32))).bind fun e12 =>
some (e12, h4)
else
some ((-1001 : Int32), h)
def fX9_smear (h : XH) (x0 : Nat) (x1 : Int32) (x2 : Int32) : Option (Int32 × XH) :=
if x1 < 0 then
some ((-1001 : Int32), h)
else
(xco h x0 9).bind fun _ =>
(fX9_isCell h x0 x2).bind fun v2 =>
if v2 = true then
(xco h x0 9).bind fun _ =>
(fX9_goesTo h x0 x1).bind fun v5 =>
if x1 < v5.1 then
(xco v5.2 x0 9).bind fun _ =>
(fX9_laysTurns v5.2 x0).bind fun h8 =>
(xco h8 x0 9).bind fun _ =>
(fX9_smearAt h8 x0 x2).bind fun v11 =>
some (v11, h8)
else
some ((-1004 : Int32), v5.2)
else
some ((-1001 : Int32), h)
def fX9_digest_b9 (x0 : Nat) (h : XH) (x1 : Int32) : Option ((XH × Int32) ⊕ XH) :=
if (18 : Int32) ≤ x1 then
some (.inr h)
else
(xco h x0 9).bind fun _ =>
(fX9_count h x0 x1).bind fun v4 =>
(xco v4.2 x0 9).bind fun _ =>
(fX9_mixes v4.2 x0 v4.1).bind fun h7 =>
some (.inl (h7, (x1 + (1 : Int32))))
def fX9_digest_B9 (x0 : Nat) (s : (XH × Int32)) : Option ((XH × Int32) ⊕ XH) := fX9_digest_b9 x0 s.1 s.2
def fX9_digest_b32 (x0 : Nat) (h : XH) (x1 : Int32) : Option ((XH × Int32) ⊕ XH) :=
(xco h x0 9).bind fun _ =>
(fX9_cells h x0).bind fun v12 =>
if v12 ≤ x1 then
some (.inr h)
else
(xco h x0 9).bind fun _ =>
(fX9_markAt h x0 (0 : Int32) x1).bind fun v15 =>
(xco v15.2 x0 9).bind fun _ =>
(fX9_mixes v15.2 x0 v15.1).bind fun h18 =>
(xco h18 x0 9).bind fun _ =>
(fX9_markAt h18 x0 (1000 : Int32) x1).bind fun v21 =>
(xco v21.2 x0 9).bind fun _ =>
(fX9_mixes v21.2 x0 v21.1).bind fun h24 =>
some (.inl (h24, (x1 + (1 : Int32))))
def fX9_digest_B32 (x0 : Nat) (s : (XH × Int32)) : Option ((XH × Int32) ⊕ XH) := fX9_digest_b32 x0 s.1 s.2
def fX9_digest_b86 (x0 : Nat) (x1 : Int32) (h : XH) (x2 : Int32) : Option ((XH × Int32) ⊕ XH) :=
if (4 : Int32) ≤ x2 then
some (.inr h)
else
(xco h x0 9).bind fun _ =>
(fX9_flash h x0 x1 x2).bind fun v32 =>
(xco v32.2 x0 9).bind fun _ =>
(fX9_mixes v32.2 x0 v32.1).bind fun h35 =>
some (.inl (h35, (x2 + (1 : Int32))))
def fX9_digest_B86 (x0 : Nat) (x1 : Int32) (s : (XH × Int32)) : Option ((XH × Int32) ⊕ XH) := fX9_digest_b86 x0 x1 s.1 s.2
def fX9_digest_b70 (x0 : Nat) (h : XH) (x1 : Int32) : Option ((XH × Int32) ⊕ XH) :=
if (20 : Int32) ≤ x1 then
some (.inr h)
else
(xco h x0 9).bind fun _ =>
(fX9_flashes h x0).bind fun v29 =>
if v29 ≤ x1 then
some (.inr h)
else
(xloop (fX9_digest_B86 x0 x1) 5000 (h, (0 : Int32))).bind fun e37 =>
some (.inl (e37, (x1 + (1 : Int32))))
def fX9_digest_B70 (x0 : Nat) (s : (XH × Int32)) : Option ((XH × Int32) ⊕ XH) := fX9_digest_b70 x0 s.1 s.2
def fX9_digest_b115 (x0 : Nat) (h : XH) (x1 : Int32) : Option ((XH × Int32) ⊕ XH) :=
if (4 : Int32) ≤ x1 then
some (.inr h)
else
(xco h x0 9).bind fun _ =>
(fX9_seems h x0 x1).bind fun v42 =>
(xco v42.2 x0 9).bind fun _ =>
(fX9_mixes v42.2 x0 v42.1).bind fun h45 =>
some (.inl (h45, (x1 + (1 : Int32))))
def fX9_digest_B115 (x0 : Nat) (s : (XH × Int32)) : Option ((XH × Int32) ⊕ XH) := fX9_digest_b115 x0 s.1 s.2
def fX9_digest_b148 (x0 : Nat) (x1 : Int32) (h : XH) (x2 : Int32) : Option ((XH × Int32) ⊕ XH) :=
if (4 : Int32) ≤ x2 then
some (.inr h)
else
(xco h x0 9).bind fun _ =>
(fX9_opening h x0 x1 x2).bind fun v53 =>
(xco v53.2 x0 9).bind fun _ =>
(fX9_mixes v53.2 x0 v53.1).bind fun h56 =>
some (.inl (h56, (x2 + (1 : Int32))))
def fX9_digest_B148 (x0 : Nat) (x1 : Int32) (s : (XH × Int32)) : Option ((XH × Int32) ⊕ XH) := fX9_digest_b148 x0 x1 s.1 s.2
def fX9_digest_b141 (x0 : Nat) (h : XH) (x1 : Int32) : Option ((XH × Int32) ⊕ XH) :=
if (5 : Int32) ≤ x1 then
some (.inr h)
else
(xloop (fX9_digest_B148 x0 x1) 5000 (h, (0 : Int32))).bind fun e58 =>
(xco e58 x0 9).bind fun _ =>
(fX9_smear e58 x0 x1 (0 : Int32)).bind fun v61 =>
(xco v61.2 x0 9).bind fun _ =>
(fX9_mixes v61.2 x0 v61.1).bind fun h64 =>
some (.inl (h64, (x1 + (1 : Int32))))
def fX9_digest_B141 (x0 : Nat) (s : (XH × Int32)) : Option ((XH × Int32) ⊕ XH) := fX9_digest_b141 x0 s.1 s.2
def fX9_digest (h : XH) (x0 : Nat) : Option (Int64 × XH) :=
(xpf h x0 9 16 (.long (12956 : Int64))).bind fun h1 =>
(xloop (fX9_digest_B9 x0) 5000 (h1, (0 : Int32))).bind fun e9 =>
(xloop (fX9_digest_B32 x0) 5000 (e9, (0 : Int32))).bind fun e26 =>
(xloop (fX9_digest_B70 x0) 5000 (e26, (0 : Int32))).bind fun e39 =>
(xloop (fX9_digest_B115 x0) 5000 (e39, (0 : Int32))).bind fun e47 =>
(xco e47 x0 9).bind fun _ =>
(fX9_mixesReadings e47 x0).bind fun h50 =>
(xloop (fX9_digest_B141 x0) 5000 (h50, (0 : Int32))).bind fun e66 =>
(xgJ e66 x0 9 16).bind fun v68 =>
some (v68, e66)
def fX9_isChange (h : XH) (x0 : Nat) (x1 : Int32) : Option Bool :=
(xco h x0 9).bind fun _ =>
(fX9_changeFrom h x0 x1).bind fun v2 =>
(xgR h x0 9 0).bind fun v4 =>
(xaI h v4 0 (63 : Int32)).bind fun v6 =>
if v6 ≤ v2 then
some false
else
(xco h x0 9).bind fun _ =>
(fX9_tickOf h x0 v2).bind fun v9 =>
if v9 = x1 then
some true
else
some false
def fX9_dropChange_b37 (x0 : Nat) (h : XH) (x3 : Int32) : Option ((XH × Int32) ⊕ XH) :=
(xgR h x0 9 0).bind fun v16 =>
(xaI h v16 0 (63 : Int32)).bind fun v18 =>
if ((2 : Int32) * v18) ≤ x3 then
some (.inr h)
else
(xgR h x0 9 0).bind fun v20 =>
(xgR h x0 9 0).bind fun v22 =>
(xaI h v22 0 (((64 : Int32) + x3) + (2 : Int32))).bind fun v24 =>
(xsI h v20 0 ((64 : Int32) + x3) v24).bind fun h26 =>
some (.inl (h26, (x3 + (1 : Int32))))
def fX9_dropChange_B37 (x0 : Nat) (s : (XH × Int32)) : Option ((XH × Int32) ⊕ XH) := fX9_dropChange_b37 x0 s.1 s.2
def fX9_dropChange (h : XH) (x0 : Nat) (x1 : Int32) : Option (Int32 × XH) :=
(xco h x0 9).bind fun _ =>
(fX9_isChange h x0 x1).bind fun v2 =>
if v2 = true then
(xco h x0 9).bind fun _ =>
(fX9_records h x0).bind fun h5 =>
(xco h5 x0 9).bind fun _ =>
(fX9_changeFrom h5 x0 x1).bind fun v8 =>
(xgR h5 x0 9 0).bind fun v10 =>
(xaI h5 v10 0 (63 : Int32)).bind fun v12 =>
(xsI h5 v10 0 (63 : Int32) (v12 - (1 : Int32))).bind fun h14 =>
(xloop (fX9_dropChange_B37 x0) 5000 (h14, ((2 : Int32) * v8))).bind fun e28 =>
(xgR e28 x0 9 0).bind fun v30 =>
(xaI e28 v30 0 (63 : Int32)).bind fun v32 =>
some (v32, e28)
else
some ((-1001 : Int32), h)
def fX9_dropReading_b31 (x0 : Nat) (h : XH) (x2 : Int32) : Option ((XH × Int32) ⊕ XH) :=
(xgR h x0 9 0).bind fun v13 =>
(xaI h v13 0 (76 : Int32)).bind fun v15 =>
if ((2 : Int32) * v15) ≤ x2 then
some (.inr h)
else
(xgR h x0 9 0).bind fun v17 =>
(xgR h x0 9 0).bind fun v19 =>
(xaI h v19 0 (((77 : Int32) + x2) + (2 : Int32))).bind fun v21 =>
(xsI h v17 0 ((77 : Int32) + x2) v21).bind fun h23 =>
some (.inl (h23, (x2 + (1 : Int32))))
def fX9_dropReading_B31 (x0 : Nat) (s : (XH × Int32)) : Option ((XH × Int32) ⊕ XH) := fX9_dropReading_b31 x0 s.1 s.2
def fX9_dropReading (h : XH) (x0 : Nat) (x1 : Int32) : Option (Int32 × XH) :=
(xco h x0 9).bind fun _ =>
(fX9_isReading h x0 x1).bind fun v2 =>
if v2 = true then
(xco h x0 9).bind fun _ =>
(fX9_records h x0).bind fun h5 =>
(xgR h5 x0 9 0).bind fun v7 =>
(xaI h5 v7 0 (76 : Int32)).bind fun v9 =>
(xsI h5 v7 0 (76 : Int32) (v9 - (1 : Int32))).bind fun h11 =>
(xloop (fX9_dropReading_B31 x0) 5000 (h11, ((2 : Int32) * x1))).bind fun e25 =>
(xgR e25 x0 9 0).bind fun v27 =>
(xaI e25 v27 0 (76 : Int32)).bind fun v29 =>
some (v29, e25)
else
some ((-1001 : Int32), h)
def fX9_fails (h : XH) (x0 : Nat) (x1 : Int32) (x2 : Int32) : Option (Bool × XH) :=
(xpf h x0 9 6 (.int x1)).bind fun h1 =>
(xpf h1 x0 9 7 (.int x2)).bind fun h3 =>
some (false, h3)
def fX9_faultKind (h : XH) (x0 : Nat) : Option Int32 :=
(xgI h x0 9 6).bind fun v1 =>
some v1
def fX9_here (h : XH) (x0 : Nat) : Option Int32 :=
(xgI h x0 9 8).bind fun v1 =>
(xgI h x0 9 5).bind fun v3 =>
if v3 ≤ v1 then
some (-1004 : Int32)
else
(xgR h x0 9 4).bind fun v5 =>
(xgI h x0 9 8).bind fun v7 =>
(xaI h v5 0 v7).bind fun v9 =>
some v9
def fX9_init_b65 (x0 : Nat) (h : XH) (x1 : Int32) : Option ((XH × Int32) ⊕ XH) :=
if (12 : Int32) ≤ x1 then
some (.inr h)
else
(xgR h x0 9 0).bind fun v29 =>
(xsI h v29 0 ((1 : Int32) + x1) (1 : Int32)).bind fun h31 =>
some (.inl (h31, (x1 + (3 : Int32))))
def fX9_init_B65 (x0 : Nat) (s : (XH × Int32)) : Option ((XH × Int32) ⊕ XH) := fX9_init_b65 x0 s.1 s.2
def fX9_init (h : XH) (n : Nat) (x0 : Nat) : Option XH :=
(xnw h n (.inr (0, 980, .inl (fun _ => 0)))).bind fun h1 =>
(xpf h1 x0 9 0 (.ref n)).bind fun h3 =>
(xnw h3 (n + 1) (.inr (0, 1001, .inl (fun _ => 0)))).bind fun h5 =>
(xpf h5 x0 9 2 (.ref (n + 1))).bind fun h7 =>
(xnw h7 (n + 2) (.inr (0, 80, .inl (fun _ => 0)))).bind fun h9 =>
(xpf h9 x0 9 4 (.ref (n + 2))).bind fun h11 =>
(xnw h11 (n + 3) (.inr (1, 60, .inl (fun _ => 0)))).bind fun h13 =>
(xpf h13 x0 9 10 (.ref (n + 3))).bind fun h15 =>
(xnw h15 (n + 4) (.inr (0, 2001, .inl (fun _ => 0)))).bind fun h17 =>
(xpf h17 x0 9 11 (.ref (n + 4))).bind fun h19 =>
(xnw h19 (n + 5) (.inr (0, 60, .inl (fun _ => 0)))).bind fun h21 =>
(xpf h21 x0 9 13 (.ref (n + 5))).bind fun h23 =>
(xgR h23 x0 9 0).bind fun v25 =>
(xsI h23 v25 0 (0 : Int32) (12 : Int32)).bind fun h27 =>
(xloop (fX9_init_B65 x0) 5000 (h27, (0 : Int32))).bind fun e33 =>
(xgR e33 x0 9 0).bind fun v35 =>
(xsI e33 v35 0 (75 : Int32) (1 : Int32)).bind fun h37 =>
(xgR h37 x0 9 0).bind fun v39 =>
(xsI h37 v39 0 (93 : Int32) (100 : Int32)).bind fun h41 =>
(xgR h41 x0 9 0).bind fun v43 =>
(xsI h41 v43 0 (94 : Int32) (1 : Int32)).bind fun h45 =>
(xgR h45 x0 9 0).bind fun v47 =>
(xsI h45 v47 0 (95 : Int32) (1 : Int32)).bind fun h49 =>
some h49
def fX9_isDigit (h : XH) (x0 : Nat) : Option Bool :=
(xco h x0 9).bind fun _ =>
(fX9_here h x0).bind fun v2 =>
(fX9_in v2 (48 : Int32) (57 : Int32)).bind fun v4 =>
some v4
def fX9_isSeen (h : XH) (x0 : Nat) (x1 : Int32) : Option Int32 :=
(fX9_isTick x1).bind fun v1 =>
if v1 = true then
(xco h x0 9).bind fun _ =>
(fX9_isOpen h x0 x1).bind fun v4 =>
if v4 = true then
some (1 : Int32)
else
some (0 : Int32)
else
some (-1001 : Int32)
def fX9_readsCells_J60 (h : XH) (x0 : Nat) (x1 : Int32) (s0 : Nat) (s1 : Int32) (s2 : Int32) : Option ((XH × Int32) ⊕ (XH × Int32)) :=
(xsI h s0 0 s1 s2).bind fun h12 =>
(xgI h12 x0 9 8).bind fun v14 =>
(xpf h12 x0 9 8 (.int (v14 + (1 : Int32)))).bind fun h16 =>
some (.inl (h16, (x1 + (1 : Int32))))
def fX9_readsCells_J31 (h : XH) (x0 : Nat) (x1 : Int32) : Option ((XH × Int32) ⊕ (XH × Int32)) :=
(xgR h x0 9 0).bind fun v4 =>
(xco h x0 9).bind fun _ =>
(fX9_here h x0).bind fun v7 =>
if v7 = (46 : Int32) then
fX9_readsCells_J60 h x0 x1 v4 ((1 : Int32) + x1) (0 : Int32)
else
(xco h x0 9).bind fun _ =>
(fX9_here h x0).bind fun v10 =>
fX9_readsCells_J60 h x0 x1 v4 ((1 : Int32) + x1) ((v10 - (97 : Int32)) + (1 : Int32))
def fX9_readsCells_b2 (x0 : Nat) (h : XH) (x1 : Int32) : Option ((XH × Int32) ⊕ (XH × Int32)) :=
if (60 : Int32) ≤ x1 then
some (.inr (h, x1))
else
(xco h x0 9).bind fun _ =>
(fX9_here h x0).bind fun v2 =>
if v2 = (46 : Int32) then
fX9_readsCells_J31 h x0 x1
else
(xco h x0 9).bind fun _ =>
(fX9_here h x0).bind fun v19 =>
(fX9_in v19 (97 : Int32) (99 : Int32)).bind fun v21 =>
if v21 = true then
fX9_readsCells_J31 h x0 x1
else
some (.inr (h, x1))
def fX9_readsCells_B2 (x0 : Nat) (s : (XH × Int32)) : Option ((XH × Int32) ⊕ (XH × Int32)) := fX9_readsCells_b2 x0 s.1 s.2
def fX9_readsCells (h : XH) (x0 : Nat) : Option (Bool × XH) :=
(xloop (fX9_readsCells_B2 x0) 5000 (h, (0 : Int32))).bind fun e23 =>
(xgR e23.1 x0 9 0).bind fun v25 =>
(xsI e23.1 v25 0 (0 : Int32) e23.2).bind fun h27 =>
if 0 < e23.2 then
some (true, h27)
else
(xgI h27 x0 9 8).bind fun v29 =>
(xco h27 x0 9).bind fun _ =>
(fX9_fails h27 x0 (1 : Int32) v29).bind fun v32 =>
if v32.1 = true then
some (true, v32.2)
else
some (false, v32.2)
def fX9_readsNumber_b11 (x0 : Nat) (x1 : Int32) (x2 : Int32) (x3 : Int32) (x4 : Int32) (x5 : Int32) (h : XH) : Option (XH ⊕ XH) :=
(xco h x0 9).bind fun _ =>
(fX9_isDigit h x0).bind fun v6 =>
if v6 = true then
(xgI h x0 9 8).bind fun v8 =>
if (x5 + x1) ≤ v8 then
some (.inr h)
else
(xgI h x0 9 9).bind fun v10 =>
(xco h x0 9).bind fun _ =>
(fX9_here h x0).bind fun v13 =>
(xpf h x0 9 9 (.int ((((10 : Int32) * v10) + v13) - (48 : Int32)))).bind fun h15 =>
(xgI h15 x0 9 8).bind fun v17 =>
(xpf h15 x0 9 8 (.int (v17 + (1 : Int32)))).bind fun h19 =>
some (.inl h19)
else
some (.inr h)
def fX9_readsNumber_B11 (x0 : Nat) (x1 : Int32) (x2 : Int32) (x3 : Int32) (x4 : Int32) (x5 : Int32) (s : XH) : Option (XH ⊕ XH) := fX9_readsNumber_b11 x0 x1 x2 x3 x4 x5 s
def fX9_readsNumber (h : XH) (x0 : Nat) (x1 : Int32) (x2 : Int32) (x3 : Int32) (x4 : Int32) : Option (Bool × XH) :=
(xgI h x0 9 8).bind fun v1 =>
(xpf h x0 9 9 (.int (0 : Int32))).bind fun h3 =>
(xloop (fX9_readsNumber_B11 x0 x1 x2 x3 x4 v1) 5000 h3).bind fun e21 =>
(xgI e21 x0 9 8).bind fun v23 =>
if v23 = v1 then
(xgI e21 x0 9 8).bind fun v25 =>
(xco e21 x0 9).bind fun _ =>
(fX9_fails e21 x0 (1 : Int32) v25).bind fun v28 =>
some (v28.1, v28.2)
else
(xco e21 x0 9).bind fun _ =>
(fX9_isDigit e21 x0).bind fun v31 =>
if v31 = true then
(xgI e21 x0 9 8).bind fun v44 =>
(xco e21 x0 9).bind fun _ =>
(fX9_fails e21 x0 (1 : Int32) v44).bind fun v47 =>
some (v47.1, v47.2)
else
(xgI e21 x0 9 9).bind fun v33 =>
(xpf e21 x0 9 9 (.int (v33 * x2))).bind fun h35 =>
(xgI h35 x0 9 9).bind fun v37 =>
(fX9_in v37 x3 x4).bind fun v39 =>
if v39 = true then
some (true, h35)
else
(xco h35 x0 9).bind fun _ =>
(fX9_fails h35 x0 (2 : Int32) v1).bind fun v42 =>
if v42.1 = true then
some (true, v42.2)
else
some (false, v42.2)
def fX9_readsSpeed_J50 (h : XH) (x0 : Nat) (x1 : Int32) (s0 : Nat) (s1 : Int32) (s2 : Bool) : Option (Bool × XH) :=
(xpf h s0 9 8 (.int (s1 + (xbi s2)))).bind fun h13 =>
(xco h13 x0 9).bind fun _ =>
(fX9_readsNumber h13 x0 (4 : Int32) x1 (-1000 : Int32) (1000 : Int32)).bind fun v16 =>
(xgR v16.2 x0 9 0).bind fun v18 =>
(xgI v16.2 x0 9 9).bind fun v20 =>
(xsI v16.2 v18 0 (62 : Int32) v20).bind fun h22 =>
some (v16.1, h22)
def fX9_readsSpeed_J35 (h : XH) (x0 : Nat) (s0 : Int32) : Option (Bool × XH) :=
(xgI h x0 9 8).bind fun v11 =>
if 0 ≤ s0 then
fX9_readsSpeed_J50 h x0 s0 x0 v11 false
else
fX9_readsSpeed_J50 h x0 s0 x0 v11 true
def fX9_readsSpeed (h : XH) (x0 : Nat) : Option (Bool × XH) :=
(xco h x0 9).bind fun _ =>
(fX9_here h x0).bind fun v2 =>
if v2 = (42 : Int32) then
(xgI h x0 9 8).bind fun v4 =>
(xpf h x0 9 8 (.int (v4 + (1 : Int32)))).bind fun h6 =>
(xco h6 x0 9).bind fun _ =>
(fX9_here h6 x0).bind fun v9 =>
if v9 = (45 : Int32) then
fX9_readsSpeed_J35 h6 x0 (-1 : Int32)
else
fX9_readsSpeed_J35 h6 x0 (1 : Int32)
else
some (true, h)
def fX9_readsStart (h : XH) (x0 : Nat) : Option (Bool × XH) :=
(xco h x0 9).bind fun _ =>
(fX9_here h x0).bind fun v2 =>
if v2 = (64 : Int32) then
(xgI h x0 9 8).bind fun v4 =>
(xpf h x0 9 8 (.int (v4 + (1 : Int32)))).bind fun h6 =>
(xco h6 x0 9).bind fun _ =>
(fX9_readsNumber h6 x0 (2 : Int32) (1 : Int32) (0 : Int32) (59 : Int32)).bind fun v9 =>
(xgR v9.2 x0 9 0).bind fun v11 =>
(xgI v9.2 x0 9 9).bind fun v13 =>
(xsI v9.2 v11 0 (61 : Int32) v13).bind fun h15 =>
some (v9.1, h15)
else
some (true, h)
def fX9_load_b122 (x0 : Nat) (h : XH) (x2 : Int32) : Option ((XH × Int32) ⊕ XH) :=
if (98 : Int32) ≤ x2 then
some (.inr h)
else
(xgR h x0 9 0).bind fun v23 =>
(xaI h v23 0 x2).bind fun v25 =>
(xgR h x0 9 0).bind fun v27 =>
(xgR h x0 9 0).bind fun v29 =>
(xaI h v29 0 ((882 : Int32) + x2)).bind fun v31 =>
(xsI h v27 0 x2 v31).bind fun h33 =>
(xgR h33 x0 9 0).bind fun v35 =>
(xsI h33 v35 0 ((882 : Int32) + x2) v25).bind fun h37 =>
some (.inl (h37, (x2 + (1 : Int32))))
def fX9_load_B122 (x0 : Nat) (s : (XH × Int32)) : Option ((XH × Int32) ⊕ XH) := fX9_load_b122 x0 s.1 s.2
def fX9_load_J100 (h : XH) (x0 : Nat) (s0 : Bool) : Option (Int32 × XH) :=
if s0 = true then
(xloop (fX9_load_B122 x0) 5000 (h, (0 : Int32))).bind fun e39 =>
(xco e39 x0 9).bind fun _ =>
(fX9_records e39 x0).bind fun h42 =>
(xco h42 x0 9).bind fun _ =>
(fX9_copies h42 x0 (9 : Int32) (0 : Int32)).bind fun h45 =>
(xco h45 x0 9).bind fun _ =>
(fX9_cells h45 x0).bind fun v48 =>
some (v48, h45)
else
(xco h x0 9).bind fun _ =>
(fX9_copies h x0 (9 : Int32) (0 : Int32)).bind fun h51 =>
(xgI h51 x0 9 7).bind fun v53 =>
some (((-10 : Int32) - v53), h51)
def fX9_load_J99 (h : XH) (x0 : Nat) : Option (Int32 × XH) :=
fX9_load_J100 h x0 false
def fX9_load_J95 (h : XH) (x0 : Nat) : Option (Int32 × XH) :=
fX9_load_J100 h x0 true
def fX9_load_J67 (h : XH) (x0 : Nat) (s0 : Bool) : Option (Int32 × XH) :=
if s0 = true then
(xgI h x0 9 8).bind fun v55 =>
(xgI h x0 9 5).bind fun v57 =>
if v55 = v57 then
fX9_load_J95 h x0
else
(xgI h x0 9 8).bind fun v59 =>
(xco h x0 9).bind fun _ =>
(fX9_fails h x0 (1 : Int32) v59).bind fun v62 =>
if v62.1 = true then
fX9_load_J95 v62.2 x0
else
fX9_load_J99 v62.2 x0
else
fX9_load_J99 h x0
def fX9_load_J66 (h : XH) (x0 : Nat) : Option (Int32 × XH) :=
fX9_load_J67 h x0 false
def fX9_load (h : XH) (x0 : Nat) : Option (Int32 × XH) :=
(xco h x0 9).bind fun _ =>
(fX9_copies h x0 (0 : Int32) (9 : Int32)).bind fun h2 =>
(xpf h2 x0 9 6 (.int (0 : Int32))).bind fun h4 =>
(xpf h4 x0 9 8 (.int (0 : Int32))).bind fun h6 =>
(xgR h6 x0 9 0).bind fun v8 =>
(xsI h6 v8 0 (61 : Int32) (0 : Int32)).bind fun h10 =>
(xgR h10 x0 9 0).bind fun v12 =>
(xsI h10 v12 0 (62 : Int32) (0 : Int32)).bind fun h14 =>
(xgR h14 x0 9 0).bind fun v16 =>
(xsI h14 v16 0 (63 : Int32) (0 : Int32)).bind fun h18 =>
(xco h18 x0 9).bind fun _ =>
(fX9_readsCells h18 x0).bind fun v21 =>
if v21.1 = true then
(xco v21.2 x0 9).bind fun _ =>
(fX9_readsStart v21.2 x0).bind fun v65 =>
if v65.1 = true then
(xco v65.2 x0 9).bind fun _ =>
(fX9_readsSpeed v65.2 x0).bind fun v68 =>
if v68.1 = true then
fX9_load_J67 v68.2 x0 true
else
fX9_load_J66 v68.2 x0
else
fX9_load_J66 v65.2 x0
else
fX9_load_J66 v21.2 x0
def fX9_look (h : XH) (x0 : Nat) (x1 : Int32) : Option (Int32 × XH) :=
(xco h x0 9).bind fun _ =>
(fX9_flashes h x0).bind fun v2 =>
(fX9_in x1 (0 : Int32) (v2 - (2 : Int32))).bind fun v4 =>
if v4 = true then
(xgR h x0 9 0).bind fun v6 =>
(xaI h v6 0 (76 : Int32)).bind fun v8 =>
if v8 = (8 : Int32) then
some ((-1003 : Int32), h)
else
(xco h x0 9).bind fun _ =>
(fX9_laysTurns h x0).bind fun h11 =>
(xgR h11 x0 9 0).bind fun v13 =>
(xaI h11 v13 0 (75 : Int32)).bind fun v15 =>
(xco h11 x0 9).bind fun _ =>
(fX9_stepBehind h11 x0 x1).bind fun v18 =>
(xco h11 x0 9).bind fun _ =>
(fX9_adds h11 x0 v15 v18).bind fun v21 =>
some (v21.1, v21.2)
else
some ((-1001 : Int32), h)
def fX9_odd_b20 (x0 : Nat) (h : XH) (x1 : Int32) : Option ((XH × Int32) ⊕ ((XH × Int32) ⊕ XH)) :=
(xgR h x0 9 0).bind fun v6 =>
(xaI h v6 0 (76 : Int32)).bind fun v8 =>
if v8 ≤ x1 then
some (.inr (.inr h))
else
(xco h x0 9).bind fun _ =>
(fX9_finds h x0 x1).bind fun h11 =>
(xgI h11 x0 9 12).bind fun v13 =>
if v13 ≤ 0 then
some (.inl (h11, (x1 + (1 : Int32))))
else
some (.inr (.inl (h11, x1)))
def fX9_odd_B20 (x0 : Nat) (s : (XH × Int32)) : Option ((XH × Int32) ⊕ ((XH × Int32) ⊕ XH)) := fX9_odd_b20 x0 s.1 s.2
def fX9_odd (h : XH) (x0 : Nat) : Option (Int32 × XH) :=
(xco h x0 9).bind fun _ =>
(fX9_finds h x0 (-1004 : Int32)).bind fun h2 =>
(xgI h2 x0 9 12).bind fun v4 =>
if v4 ≤ 0 then
(xloop (fX9_odd_B20 x0) 5000 (h2, (0 : Int32))).bind fun e15 =>
(match e15 with
| .inl e15 =>
some (e15.2, e15.1)
| .inr e15 =>
some ((-1004 : Int32), e15)
)
else
some ((-1002 : Int32), h2)
def fX9_read (h : XH) (x0 : Nat) (x1 : Int32) (x2 : Int32) : Option (Int32 × XH) :=
(fX9_in x1 (1 : Int32) (500 : Int32)).bind fun v1 =>
if v1 = true then
(fX9_in x2 (-30 : Int32) (30 : Int32)).bind fun v3 =>
if v3 = true then
(xgR h x0 9 0).bind fun v5 =>
(xaI h v5 0 (76 : Int32)).bind fun v7 =>
if v7 = (8 : Int32) then
some ((-1003 : Int32), h)
else
(xco h x0 9).bind fun _ =>
(fX9_adds h x0 x1 x2).bind fun v10 =>
some (v10.1, v10.2)
else
some ((-1001 : Int32), h)
else
some ((-1001 : Int32), h)
def fX9_setDisc_b52 (h : XH) (x1 : Int32) (x2 : Int32) (x3 : Int32) (x4 : Int32) : Option ((Int32 × Int32) ⊕ Int32) :=
if x1 ≤ x4 then
some (.inr x3)
else
xlet (x3 + ((x2 >>> (x4 &&& 31)) &&& (1 : Int32))) fun y16 =>
some (.inl (y16, (x4 + (1 : Int32))))
def fX9_setDisc_B52 (h : XH) (x1 : Int32) (x2 : Int32) (s : (Int32 × Int32)) : Option ((Int32 × Int32) ⊕ Int32) := fX9_setDisc_b52 h x1 x2 s.1 s.2
def fX9_setDisc (h : XH) (x0 : Nat) (x1 : Int32) (x2 : Int32) : Option (Int32 × XH) :=
(fX9_in x1 (1 : Int32) (30 : Int32)).bind fun v1 =>
if v1 = true then
(fX9_in x2 (0 : Int32) (((1 : Int32) <<< (x1 &&& 31)) - (1 : Int32))).bind fun v3 =>
if v3 = true then
(xco h x0 9).bind fun _ =>
(fX9_records h x0).bind fun h6 =>
(xgR h6 x0 9 0).bind fun v8 =>
(xsI h6 v8 0 (94 : Int32) x1).bind fun h10 =>
(xgR h10 x0 9 0).bind fun v12 =>
(xsI h10 v12 0 (95 : Int32) x2).bind fun h14 =>
(xloop (fX9_setDisc_B52 h14 x1 x2) 5000 ((0 : Int32), (0 : Int32))).bind fun e17 =>
some (e17, h14)
else
some ((-1001 : Int32), h)
else
some ((-1001 : Int32), h)
def fX9_setFlash (h : XH) (x0 : Nat) (x1 : Int32) (x2 : Int32) : Option (Int32 × XH) :=
(fX9_isTick x1).bind fun v1 =>
if v1 = true then
(fX9_in x2 (1 : Int32) (500 : Int32)).bind fun v3 =>
if v3 = true then
(xco h x0 9).bind fun _ =>
(fX9_records h x0).bind fun h6 =>
(xgR h6 x0 9 0).bind fun v8 =>
(xsI h6 v8 0 (74 : Int32) x1).bind fun h10 =>
(xgR h10 x0 9 0).bind fun v12 =>
(xsI h10 v12 0 (75 : Int32) x2).bind fun h14 =>
(xco h14 x0 9).bind fun _ =>
(fX9_flashes h14 x0).bind fun v17 =>
some (v17, h14)
else
some ((-1001 : Int32), h)
else
some ((-1001 : Int32), h)
def fX9_setLimit (h : XH) (x0 : Nat) (x1 : Int32) : Option (Int32 × XH) :=
(fX9_in x1 (1 : Int32) (1000 : Int32)).bind fun v1 =>
if v1 = true then
(xco h x0 9).bind fun _ =>
(fX9_becomes h x0 (93 : Int32) x1).bind fun v4 =>
some (v4.1, v4.2)
else
some ((-1001 : Int32), h)
def fX9_setMark (h : XH) (x0 : Nat) (x1 : Int32) (x2 : Int32) : Option (Int32 × XH) :=
(xco h x0 9).bind fun _ =>
(fX9_isCell h x0 x1).bind fun v2 =>
if v2 = true then
(fX9_in x2 (0 : Int32) (3 : Int32)).bind fun v4 =>
if v4 = true then
(xco h x0 9).bind fun _ =>
(fX9_becomes h x0 ((1 : Int32) + x1) x2).bind fun v7 =>
some (v7.1, v7.2)
else
some ((-1001 : Int32), h)
else
some ((-1001 : Int32), h)
def fX9_setSpeed_J149 (h : XH) (x0 : Nat) (x1 : Int32) (x2 : Int32) (x4 : Int32) : Option (Int32 × XH) :=
(xgR h x0 9 0).bind fun v14 =>
(xsI h v14 0 ((64 : Int32) + ((2 : Int32) * x4)) x1).bind fun h16 =>
(xgR h16 x0 9 0).bind fun v18 =>
(xsI h16 v18 0 (((64 : Int32) + ((2 : Int32) * x4)) + (1 : Int32)) x2).bind fun h20 =>
(xgR h20 x0 9 0).bind fun v22 =>
(xaI h20 v22 0 (63 : Int32)).bind fun v24 =>
some (v24, h20)
def fX9_setSpeed_b101 (x0 : Nat) (x1 : Int32) (x2 : Int32) (x4 : Int32) (h : XH) (x5 : Int32) : Option ((XH × Int32) ⊕ XH) :=
if x5 < ((2 : Int32) * x4) then
some (.inr h)
else
(xgR h x0 9 0).bind fun v31 =>
(xgR h x0 9 0).bind fun v33 =>
(xaI h v33 0 ((64 : Int32) + x5)).bind fun v35 =>
(xsI h v31 0 (((64 : Int32) + x5) + (2 : Int32)) v35).bind fun h37 =>
some (.inl (h37, (x5 + (-1 : Int32))))
def fX9_setSpeed_B101 (x0 : Nat) (x1 : Int32) (x2 : Int32) (x4 : Int32) (s : (XH × Int32)) : Option ((XH × Int32) ⊕ XH) := fX9_setSpeed_b101 x0 x1 x2 x4 s.1 s.2
def fX9_setSpeed_J53 (h : XH) (x0 : Nat) (x1 : Int32) (x2 : Int32) (x3 : Bool) : Option (Int32 × XH) :=
(xco h x0 9).bind fun _ =>
(fX9_records h x0).bind fun h9 =>
if x1 = 0 then
(xgR h9 x0 9 0).bind fun v47 =>
(xsI h9 v47 0 (62 : Int32) x2).bind fun h49 =>
(xgR h49 x0 9 0).bind fun v51 =>
(xaI h49 v51 0 (63 : Int32)).bind fun v53 =>
some (v53, h49)
else
(xco h9 x0 9).bind fun _ =>
(fX9_changeFrom h9 x0 x1).bind fun v12 =>
if x3 = true then
fX9_setSpeed_J149 h9 x0 x1 x2 v12
else
(xgR h9 x0 9 0).bind fun v26 =>
(xaI h9 v26 0 (63 : Int32)).bind fun v28 =>
xlet (((2 : Int32) * v28) - (1 : Int32)) fun y30 =>
(xloop (fX9_setSpeed_B101 x0 x1 x2 v12) 5000 (h9, y30)).bind fun e39 =>
(xgR e39 x0 9 0).bind fun v41 =>
(xaI e39 v41 0 (63 : Int32)).bind fun v43 =>
(xsI e39 v41 0 (63 : Int32) (v43 + (1 : Int32))).bind fun h45 =>
fX9_setSpeed_J149 h45 x0 x1 x2 v12
def fX9_setSpeed (h : XH) (x0 : Nat) (x1 : Int32) (x2 : Int32) : Option (Int32 × XH) :=
(fX9_isTick x1).bind fun v1 =>
if v1 = true then
(fX9_in x2 (-1000 : Int32) (1000 : Int32)).bind fun v3 =>
if v3 = true then
(xco h x0 9).bind fun _ =>
(fX9_isChange h x0 x1).bind fun v6 =>
if x1 ≤ 0 then
fX9_setSpeed_J53 h x0 x1 x2 v6
else
if v6 = true then
fX9_setSpeed_J53 h x0 x1 x2 v6
else
(xgR h x0 9 0).bind fun v55 =>
(xaI h v55 0 (63 : Int32)).bind fun v57 =>
if v57 = (5 : Int32) then
some ((-1003 : Int32), h)
else
fX9_setSpeed_J53 h x0 x1 x2 v6
else
some ((-1001 : Int32), h)
else
some ((-1001 : Int32), h)
def fX9_setStart (h : XH) (x0 : Nat) (x1 : Int32) : Option (Int32 × XH) :=
(fX9_in x1 (0 : Int32) (59 : Int32)).bind fun v1 =>
if v1 = true then
(xco h x0 9).bind fun _ =>
(fX9_becomes h x0 (61 : Int32) x1).bind fun v4 =>
some (v4.1, v4.2)
else
some ((-1001 : Int32), h)
def fX9_step (h : XH) (x0 : Nat) (x1 : Int32) (x2 : Int32) : Option (Int32 × XH) :=
(fX9_isTick x1).bind fun v1 =>
if v1 = true then
(fX9_isTick x2).bind fun v3 =>
if v3 = true then
(xco h x0 9).bind fun _ =>
(fX9_laysTurns h x0).bind fun h6 =>
(xco h6 x0 9).bind fun _ =>
(fX9_stepOf h6 x0 x1 x2).bind fun v9 =>
some (v9, h6)
else
some ((-1001 : Int32), h)
else
some ((-1001 : Int32), h)
def fX9_stillPeriod_b34 (h : XH) (x0 : Nat) (x2 : Int32) (x3 : Int32) (x4 : Int32) : Option (Int32 ⊕ (Int32 ⊕ Unit)) :=
if x2 < x4 then
some (.inr (.inr ()))
else
(xgR h x0 9 0).bind fun v8 =>
(xaI h v8 0 (62 : Int32)).bind fun v10 =>
if x3 = 0 then none else
if (xrem (v10 * x4) x3) = 0 then
some (.inr (.inl x4))
else
some (.inl (x4 + (1 : Int32)))
def fX9_stillPeriod_B34 (h : XH) (x0 : Nat) (x2 : Int32) (x3 : Int32) (s : Int32) : Option (Int32 ⊕ (Int32 ⊕ Unit)) := fX9_stillPeriod_b34 h x0 x2 x3 s
def fX9_stillPeriod (h : XH) (x0 : Nat) (x1 : Int32) (x2 : Int32) : Option Int32 :=
(fX9_in x1 (1 : Int32) (500 : Int32)).bind fun v1 =>
if v1 = true then
(fX9_in x2 x1 (500 : Int32)).bind fun v3 =>
if v3 = true then
(xco h x0 9).bind fun _ =>
(fX9_measure h x0).bind fun v6 =>
(xloop (fX9_stillPeriod_B34 h x0 x2 v6) 5000 x1).bind fun e13 =>
(match e13 with
| .inl e13 =>
some e13
| .inr e13 =>
some (-1004 : Int32)
)
else
some (-1001 : Int32)
else
some (-1001 : Int32)
def fX9_turn (h : XH) (x0 : Nat) (x1 : Int32) : Option (Int32 × XH) :=
(fX9_isTick x1).bind fun v1 =>
if v1 = true then
(xco h x0 9).bind fun _ =>
(fX9_laysTurns h x0).bind fun h4 =>
(xgR h4 x0 9 2).bind fun v6 =>
(xaI h4 v6 0 x1).bind fun v8 =>
some (v8, h4)
else
some ((-1001 : Int32), h)
def fX9_turnDisc (h : XH) (x0 : Nat) (x1 : Int32) (x2 : Int32) : Option (Int32 × XH) :=
(fX9_in x1 (0 : Int32) (29 : Int32)).bind fun v1 =>
if v1 = true then
(fX9_in x2 (-1000 : Int32) (1000 : Int32)).bind fun v3 =>
if v3 = true then
(xco h x0 9).bind fun _ =>
(fX9_records h x0).bind fun h6 =>
(xgR h6 x0 9 0).bind fun v8 =>
(xaI h6 v8 0 (97 : Int32)).bind fun v10 =>
(xgR h6 x0 9 0).bind fun v12 =>
(xsI h6 v12 0 (96 : Int32) x1).bind fun h14 =>
(xgR h14 x0 9 0).bind fun v16 =>
(xsI h14 v16 0 (97 : Int32) x2).bind fun h18 =>
some (v10, h18)
else
some ((-1001 : Int32), h)
else
some ((-1001 : Int32), h)
def fX9_type (h : XH) (x0 : Nat) (x1 : Int32) : Option (Int32 × XH) :=
(fX9_in x1 (32 : Int32) (126 : Int32)).bind fun v1 =>
if v1 = true then
(xgI h x0 9 5).bind fun v3 =>
if v3 = (80 : Int32) then
some ((-1003 : Int32), h)
else
(xgR h x0 9 4).bind fun v5 =>
(xgI h x0 9 5).bind fun v7 =>
(xsI h v5 0 v7 x1).bind fun h9 =>
(xgI h9 x0 9 5).bind fun v11 =>
(xpf h9 x0 9 5 (.int (v11 + (1 : Int32)))).bind fun h13 =>
(xgI h13 x0 9 5).bind fun v15 =>
some (v15, h13)
else
some ((-1001 : Int32), h)
def fX9_undo (h : XH) (x0 : Nat) : Option (Int32 × XH) :=
(xgI h x0 9 1).bind fun v1 =>
if v1 = 0 then
some ((-1002 : Int32), h)
else
(xgI h x0 9 1).bind fun v3 =>
(xco h x0 9).bind fun _ =>
(fX9_copies h x0 v3 (0 : Int32)).bind fun h6 =>
(xgI h6 x0 9 1).bind fun v8 =>
(xpf h6 x0 9 1 (.int (v8 - (1 : Int32)))).bind fun h10 =>
(xgI h10 x0 9 1).bind fun v12 =>
some (v12, h10)
end
section
def fL_law_J813 (N0 : Nat) (xs : Nat → Int32) (h : XH) (x1 : Nat) (x2 : Nat) (x3 : Int32) (s0 : Int32) (s1 : Nat) (s2 : Int32) (s3 : Bool) : Option ((XH × Int32) ⊕ XH) :=
(xco h s1 9).bind fun _ =>
(fX9_bestPeriod h s1 s2 s3).bind fun v312 =>
if s0 = v312.1 then
some (.inl (v312.2, (x3 + (3 : Int32))))
else
none
def fL_law_J791 (N0 : Nat) (xs : Nat → Int32) (h : XH) (x1 : Nat) (x2 : Nat) (x3 : Int32) (s0 : Nat) (s1 : Int32) (s2 : Bool) : Option ((XH × Int32) ⊕ XH) :=
(xco h s0 8).bind fun _ =>
(fX8_bestPeriod h s0 s1 s2).bind fun v305 =>
(xsc N0 xs (x3 + (1 : Int32))).bind fun v307 =>
(xsc N0 xs (x3 + (2 : Int32))).bind fun v309 =>
if v309 = 0 then
fL_law_J813 N0 xs v305.2 x1 x2 x3 v305.1 x2 v307 false
else
fL_law_J813 N0 xs v305.2 x1 x2 x3 v305.1 x2 v307 true
def fL_law_b18 (N0 : Nat) (xs : Nat → Int32) (x1 : Nat) (x2 : Nat) (h : XH) (x3 : Int32) : Option ((XH × Int32) ⊕ XH) :=
if ((Int32.ofNat N0) - (3 : Int32)) < x3 then
some (.inr h)
else
(xsc N0 xs x3).bind fun v9 =>
if (v9 &&& (63 : Int32)) = 0 then
(xsc N0 xs (x3 + (1 : Int32))).bind fun v44 =>
(xco h x1 8).bind fun _ =>
(fX8_type h x1 v44).bind fun v47 =>
(xsc N0 xs (x3 + (1 : Int32))).bind fun v49 =>
(xco v47.2 x2 9).bind fun _ =>
(fX9_type v47.2 x2 v49).bind fun v52 =>
if v47.1 = v52.1 then
some (.inl (v52.2, (x3 + (3 : Int32))))
else
none
else
if (v9 &&& (63 : Int32)) = 1 then
(xco h x1 8).bind fun _ =>
(fX8_clearText h x1).bind fun v55 =>
(xco v55.2 x2 9).bind fun _ =>
(fX9_clearText v55.2 x2).bind fun v58 =>
if v55.1 = v58.1 then
some (.inl (v58.2, (x3 + (3 : Int32))))
else
none
else
if (v9 &&& (63 : Int32)) = 2 then
(xco h x1 8).bind fun _ =>
(fX8_load h x1).bind fun v61 =>
(xco v61.2 x2 9).bind fun _ =>
(fX9_load v61.2 x2).bind fun v64 =>
if v61.1 = v64.1 then
some (.inl (v64.2, (x3 + (3 : Int32))))
else
none
else
if (v9 &&& (63 : Int32)) = 3 then
(xco h x1 8).bind fun _ =>
(fX8_faultKind h x1).bind fun v67 =>
(xco h x2 9).bind fun _ =>
(fX9_faultKind h x2).bind fun v70 =>
if v67 = v70 then
some (.inl (h, (x3 + (3 : Int32))))
else
none
else
if (v9 &&& (63 : Int32)) = 4 then
(xsc N0 xs (x3 + (1 : Int32))).bind fun v72 =>
(xsc N0 xs (x3 + (2 : Int32))).bind fun v74 =>
(xco h x1 8).bind fun _ =>
(fX8_setMark h x1 v72 v74).bind fun v77 =>
(xsc N0 xs (x3 + (1 : Int32))).bind fun v79 =>
(xsc N0 xs (x3 + (2 : Int32))).bind fun v81 =>
(xco v77.2 x2 9).bind fun _ =>
(fX9_setMark v77.2 x2 v79 v81).bind fun v84 =>
if v77.1 = v84.1 then
some (.inl (v84.2, (x3 + (3 : Int32))))
else
none
else
if (v9 &&& (63 : Int32)) = 5 then
(xsc N0 xs (x3 + (1 : Int32))).bind fun v86 =>
(xco h x1 8).bind fun _ =>
(fX8_setStart h x1 v86).bind fun v89 =>
(xsc N0 xs (x3 + (1 : Int32))).bind fun v91 =>
(xco v89.2 x2 9).bind fun _ =>
(fX9_setStart v89.2 x2 v91).bind fun v94 =>
if v89.1 = v94.1 then
some (.inl (v94.2, (x3 + (3 : Int32))))
else
none
else
if (v9 &&& (63 : Int32)) = 6 then
(xsc N0 xs (x3 + (1 : Int32))).bind fun v96 =>
(xsc N0 xs (x3 + (2 : Int32))).bind fun v98 =>
(xco h x1 8).bind fun _ =>
(fX8_setSpeed h x1 v96 v98).bind fun v101 =>
(xsc N0 xs (x3 + (1 : Int32))).bind fun v103 =>
(xsc N0 xs (x3 + (2 : Int32))).bind fun v105 =>
(xco v101.2 x2 9).bind fun _ =>
(fX9_setSpeed v101.2 x2 v103 v105).bind fun v108 =>
if v101.1 = v108.1 then
some (.inl (v108.2, (x3 + (3 : Int32))))
else
none
else
if (v9 &&& (63 : Int32)) = 7 then
(xsc N0 xs (x3 + (1 : Int32))).bind fun v110 =>
(xco h x1 8).bind fun _ =>
(fX8_dropChange h x1 v110).bind fun v113 =>
(xsc N0 xs (x3 + (1 : Int32))).bind fun v115 =>
(xco v113.2 x2 9).bind fun _ =>
(fX9_dropChange v113.2 x2 v115).bind fun v118 =>
if v113.1 = v118.1 then
some (.inl (v118.2, (x3 + (3 : Int32))))
else
none
else
if (v9 &&& (63 : Int32)) = 8 then
(xsc N0 xs (x3 + (1 : Int32))).bind fun v120 =>
(xsc N0 xs (x3 + (2 : Int32))).bind fun v122 =>
(xco h x1 8).bind fun _ =>
(fX8_markAt h x1 v120 v122).bind fun v125 =>
(xsc N0 xs (x3 + (1 : Int32))).bind fun v127 =>
(xsc N0 xs (x3 + (2 : Int32))).bind fun v129 =>
(xco h x2 9).bind fun _ =>
(fX9_markAt h x2 v127 v129).bind fun v132 =>
if v125 = v132.1 then
some (.inl (v132.2, (x3 + (3 : Int32))))
else
none
else
if (v9 &&& (63 : Int32)) = 9 then
(xsc N0 xs (x3 + (1 : Int32))).bind fun v134 =>
(xco h x1 8).bind fun _ =>
(fX8_turn h x1 v134).bind fun v137 =>
(xsc N0 xs (x3 + (1 : Int32))).bind fun v139 =>
(xco h x2 9).bind fun _ =>
(fX9_turn h x2 v139).bind fun v142 =>
if v137 = v142.1 then
some (.inl (v142.2, (x3 + (3 : Int32))))
else
none
else
if (v9 &&& (63 : Int32)) = 10 then
(xsc N0 xs (x3 + (1 : Int32))).bind fun v144 =>
(xsc N0 xs (x3 + (2 : Int32))).bind fun v146 =>
(xco h x1 8).bind fun _ =>
(fX8_setFlash h x1 v144 v146).bind fun v149 =>
(xsc N0 xs (x3 + (1 : Int32))).bind fun v151 =>
(xsc N0 xs (x3 + (2 : Int32))).bind fun v153 =>
(xco v149.2 x2 9).bind fun _ =>
(fX9_setFlash v149.2 x2 v151 v153).bind fun v156 =>
if v149.1 = v156.1 then
some (.inl (v156.2, (x3 + (3 : Int32))))
else
none
else
if (v9 &&& (63 : Int32)) = 11 then
(xsc N0 xs (x3 + (1 : Int32))).bind fun v158 =>
(xsc N0 xs (x3 + (2 : Int32))).bind fun v160 =>
(xco h x1 8).bind fun _ =>
(fX8_flash h x1 v158 v160).bind fun v163 =>
(xsc N0 xs (x3 + (1 : Int32))).bind fun v165 =>
(xsc N0 xs (x3 + (2 : Int32))).bind fun v167 =>
(xco h x2 9).bind fun _ =>
(fX9_flash h x2 v165 v167).bind fun v170 =>
if v163 = v170.1 then
some (.inl (v170.2, (x3 + (3 : Int32))))
else
none
else
if (v9 &&& (63 : Int32)) = 12 then
(xsc N0 xs (x3 + (1 : Int32))).bind fun v172 =>
(xsc N0 xs (x3 + (2 : Int32))).bind fun v174 =>
(xco h x1 8).bind fun _ =>
(fX8_step h x1 v172 v174).bind fun v177 =>
(xsc N0 xs (x3 + (1 : Int32))).bind fun v179 =>
(xsc N0 xs (x3 + (2 : Int32))).bind fun v181 =>
(xco h x2 9).bind fun _ =>
(fX9_step h x2 v179 v181).bind fun v184 =>
if v177 = v184.1 then
some (.inl (v184.2, (x3 + (3 : Int32))))
else
none
else
if (v9 &&& (63 : Int32)) = 13 then
(xsc N0 xs (x3 + (1 : Int32))).bind fun v186 =>
(xco h x1 8).bind fun _ =>
(fX8_seems h x1 v186).bind fun v189 =>
(xsc N0 xs (x3 + (1 : Int32))).bind fun v191 =>
(xco h x2 9).bind fun _ =>
(fX9_seems h x2 v191).bind fun v194 =>
if v189 = v194.1 then
some (.inl (v194.2, (x3 + (3 : Int32))))
else
none
else
if (v9 &&& (63 : Int32)) = 14 then
(xsc N0 xs (x3 + (1 : Int32))).bind fun v196 =>
(xsc N0 xs (x3 + (2 : Int32))).bind fun v198 =>
(xco h x1 8).bind fun _ =>
(fX8_stillPeriod h x1 v196 v198).bind fun v201 =>
(xsc N0 xs (x3 + (1 : Int32))).bind fun v203 =>
(xsc N0 xs (x3 + (2 : Int32))).bind fun v205 =>
(xco h x2 9).bind fun _ =>
(fX9_stillPeriod h x2 v203 v205).bind fun v208 =>
if v201 = v208 then
some (.inl (h, (x3 + (3 : Int32))))
else
none
else
if (v9 &&& (63 : Int32)) = 15 then
(xsc N0 xs (x3 + (1 : Int32))).bind fun v210 =>
(xsc N0 xs (x3 + (2 : Int32))).bind fun v212 =>
(xco h x1 8).bind fun _ =>
(fX8_read h x1 v210 v212).bind fun v215 =>
(xsc N0 xs (x3 + (1 : Int32))).bind fun v217 =>
(xsc N0 xs (x3 + (2 : Int32))).bind fun v219 =>
(xco v215.2 x2 9).bind fun _ =>
(fX9_read v215.2 x2 v217 v219).bind fun v222 =>
if v215.1 = v222.1 then
some (.inl (v222.2, (x3 + (3 : Int32))))
else
none
else
if (v9 &&& (63 : Int32)) = 16 then
(xsc N0 xs (x3 + (1 : Int32))).bind fun v224 =>
(xco h x1 8).bind fun _ =>
(fX8_look h x1 v224).bind fun v227 =>
(xsc N0 xs (x3 + (1 : Int32))).bind fun v229 =>
(xco v227.2 x2 9).bind fun _ =>
(fX9_look v227.2 x2 v229).bind fun v232 =>
if v227.1 = v232.1 then
some (.inl (v232.2, (x3 + (3 : Int32))))
else
none
else
if (v9 &&& (63 : Int32)) = 17 then
(xsc N0 xs (x3 + (1 : Int32))).bind fun v234 =>
(xco h x1 8).bind fun _ =>
(fX8_dropReading h x1 v234).bind fun v237 =>
(xsc N0 xs (x3 + (1 : Int32))).bind fun v239 =>
(xco v237.2 x2 9).bind fun _ =>
(fX9_dropReading v237.2 x2 v239).bind fun v242 =>
if v237.1 = v242.1 then
some (.inl (v242.2, (x3 + (3 : Int32))))
else
none
else
if (v9 &&& (63 : Int32)) = 18 then
(xsc N0 xs (x3 + (1 : Int32))).bind fun v244 =>
(xsc N0 xs (x3 + (2 : Int32))).bind fun v246 =>
(xco h x1 8).bind fun _ =>
(fX8_reading h x1 v244 v246).bind fun v249 =>
(xsc N0 xs (x3 + (1 : Int32))).bind fun v251 =>
(xsc N0 xs (x3 + (2 : Int32))).bind fun v253 =>
(xco v249.2 x2 9).bind fun _ =>
(fX9_reading v249.2 x2 v251 v253).bind fun v256 =>
if v249.1 = v256.1 then
some (.inl (v256.2, (x3 + (3 : Int32))))
else
none
else
if (v9 &&& (63 : Int32)) = 19 then
(xsc N0 xs (x3 + (1 : Int32))).bind fun v258 =>
(xco h x1 8).bind fun _ =>
(fX8_setLimit h x1 v258).bind fun v261 =>
(xsc N0 xs (x3 + (1 : Int32))).bind fun v263 =>
(xco v261.2 x2 9).bind fun _ =>
(fX9_setLimit v261.2 x2 v263).bind fun v266 =>
if v261.1 = v266.1 then
some (.inl (v266.2, (x3 + (3 : Int32))))
else
none
else
if (v9 &&& (63 : Int32)) = 20 then
(xco h x1 8).bind fun _ =>
(fX8_candidates h x1).bind fun v269 =>
(xco v269.2 x2 9).bind fun _ =>
(fX9_candidates v269.2 x2).bind fun v272 =>
if v269.1 = v272.1 then
some (.inl (v272.2, (x3 + (3 : Int32))))
else
none
else
if (v9 &&& (63 : Int32)) = 21 then
(xsc N0 xs (x3 + (1 : Int32))).bind fun v274 =>
(xco h x1 8).bind fun _ =>
(fX8_candidate h x1 v274).bind fun v277 =>
(xsc N0 xs (x3 + (1 : Int32))).bind fun v279 =>
(xco v277.2 x2 9).bind fun _ =>
(fX9_candidate v277.2 x2 v279).bind fun v282 =>
if v277.1 = v282.1 then
some (.inl (v282.2, (x3 + (3 : Int32))))
else
none
else
if (v9 &&& (63 : Int32)) = 22 then
(xsc N0 xs (x3 + (1 : Int32))).bind fun v284 =>
(xco h x1 8).bind fun _ =>
(fX8_nearest h x1 v284).bind fun v287 =>
(xsc N0 xs (x3 + (1 : Int32))).bind fun v289 =>
(xco v287.2 x2 9).bind fun _ =>
(fX9_nearest v287.2 x2 v289).bind fun v292 =>
if v287.1 = v292.1 then
some (.inl (v292.2, (x3 + (3 : Int32))))
else
none
else
if (v9 &&& (63 : Int32)) = 23 then
(xco h x1 8).bind fun _ =>
(fX8_odd h x1).bind fun v295 =>
(xco v295.2 x2 9).bind fun _ =>
(fX9_odd v295.2 x2).bind fun v298 =>
if v295.1 = v298.1 then
some (.inl (v298.2, (x3 + (3 : Int32))))
else
none
else
if (v9 &&& (63 : Int32)) = 24 then
(xsc N0 xs (x3 + (1 : Int32))).bind fun v300 =>
(xsc N0 xs (x3 + (2 : Int32))).bind fun v302 =>
if v302 = 0 then
fL_law_J791 N0 xs h x1 x2 x3 x1 v300 false
else
fL_law_J791 N0 xs h x1 x2 x3 x1 v300 true
else
if (v9 &&& (63 : Int32)) = 25 then
(xsc N0 xs (x3 + (1 : Int32))).bind fun v314 =>
(xsc N0 xs (x3 + (2 : Int32))).bind fun v316 =>
(xco h x1 8).bind fun _ =>
(fX8_setDisc h x1 v314 v316).bind fun v319 =>
(xsc N0 xs (x3 + (1 : Int32))).bind fun v321 =>
(xsc N0 xs (x3 + (2 : Int32))).bind fun v323 =>
(xco v319.2 x2 9).bind fun _ =>
(fX9_setDisc v319.2 x2 v321 v323).bind fun v326 =>
if v319.1 = v326.1 then
some (.inl (v326.2, (x3 + (3 : Int32))))
else
none
else
if (v9 &&& (63 : Int32)) = 26 then
(xsc N0 xs (x3 + (1 : Int32))).bind fun v328 =>
(xsc N0 xs (x3 + (2 : Int32))).bind fun v330 =>
(xco h x1 8).bind fun _ =>
(fX8_turnDisc h x1 v328 v330).bind fun v333 =>
(xsc N0 xs (x3 + (1 : Int32))).bind fun v335 =>
(xsc N0 xs (x3 + (2 : Int32))).bind fun v337 =>
(xco v333.2 x2 9).bind fun _ =>
(fX9_turnDisc v333.2 x2 v335 v337).bind fun v340 =>
if v333.1 = v340.1 then
some (.inl (v340.2, (x3 + (3 : Int32))))
else
none
else
if (v9 &&& (63 : Int32)) = 27 then
(xsc N0 xs (x3 + (1 : Int32))).bind fun v342 =>
(xco h x1 8).bind fun _ =>
(fX8_isSeen h x1 v342).bind fun v345 =>
(xsc N0 xs (x3 + (1 : Int32))).bind fun v347 =>
(xco h x2 9).bind fun _ =>
(fX9_isSeen h x2 v347).bind fun v350 =>
if v345 = v350 then
some (.inl (h, (x3 + (3 : Int32))))
else
none
else
if (v9 &&& (63 : Int32)) = 28 then
(xsc N0 xs (x3 + (1 : Int32))).bind fun v352 =>
(xsc N0 xs (x3 + (2 : Int32))).bind fun v354 =>
(xco h x1 8).bind fun _ =>
(fX8_opening h x1 v352 v354).bind fun v357 =>
(xsc N0 xs (x3 + (1 : Int32))).bind fun v359 =>
(xsc N0 xs (x3 + (2 : Int32))).bind fun v361 =>
(xco h x2 9).bind fun _ =>
(fX9_opening h x2 v359 v361).bind fun v364 =>
if v357 = v364.1 then
some (.inl (v364.2, (x3 + (3 : Int32))))
else
none
else
if (v9 &&& (63 : Int32)) = 29 then
(xsc N0 xs (x3 + (1 : Int32))).bind fun v366 =>
(xsc N0 xs (x3 + (2 : Int32))).bind fun v368 =>
(xco h x1 8).bind fun _ =>
(fX8_smear h x1 v366 v368).bind fun v371 =>
(xsc N0 xs (x3 + (1 : Int32))).bind fun v373 =>
(xsc N0 xs (x3 + (2 : Int32))).bind fun v375 =>
(xco h x2 9).bind fun _ =>
(fX9_smear h x2 v373 v375).bind fun v378 =>
if v371 = v378.1 then
some (.inl (v378.2, (x3 + (3 : Int32))))
else
none
else
if (v9 &&& (63 : Int32)) = 30 then
(xco h x1 8).bind fun _ =>
(fX8_undo h x1).bind fun v381 =>
(xco v381.2 x2 9).bind fun _ =>
(fX9_undo v381.2 x2).bind fun v384 =>
if v381.1 = v384.1 then
some (.inl (v384.2, (x3 + (3 : Int32))))
else
none
else
if (v9 &&& (63 : Int32)) = 31 then
(xsc N0 xs (x3 + (1 : Int32))).bind fun v386 =>
(xco h x1 8).bind fun _ =>
(fX8_count h x1 v386).bind fun v389 =>
(xsc N0 xs (x3 + (1 : Int32))).bind fun v391 =>
(xco h x2 9).bind fun _ =>
(fX9_count h x2 v391).bind fun v394 =>
if v389 = v394.1 then
some (.inl (v394.2, (x3 + (3 : Int32))))
else
none
else
if (v9 &&& (63 : Int32)) = 32 then
(xco h x1 8).bind fun _ =>
(fX8_digest h x1).bind fun v397 =>
(xco v397.2 x2 9).bind fun _ =>
(fX9_digest v397.2 x2).bind fun v400 =>
if (lg_cmp v397.1 v400.1) = 0 then
some (.inl (v400.2, (x3 + (3 : Int32))))
else
none
else
some (.inl (h, (x3 + (3 : Int32))))
def fL_law_B18 (N0 : Nat) (xs : Nat → Int32) (x1 : Nat) (x2 : Nat) (s : (XH × Int32)) : Option ((XH × Int32) ⊕ XH) := fL_law_b18 N0 xs x1 x2 s.1 s.2
def fL_law (N0 : Nat) (xs : Nat → Int32) (h : XH) (n : Nat) : Option Unit :=
(xnw h n (.inl (8, [.null, .null, .null, .null, .null]))).bind fun h1 =>
(fX8_init h1 (n + 1) n).bind fun h3 =>
(xnw h3 (n + 102) (.inl (9, [.null, .int 0, .null, .int 0, .null, .int 0, .int 0, .int 0, .int 0, .int 0, .null, .null, .int 0, .null, .int 0, .int 0, .long 0]))).bind fun h5 =>
(fX9_init h5 (n + 103) (n + 102)).bind fun h7 =>
(xloop (fL_law_B18 N0 xs n (n + 102)) 5000 (h7, (0 : Int32))).bind fun e402 =>
some ()
end
section
/-! numbers: Int32 as integers -/
def i32 (z : Int) : Int32 := Int32.ofInt z
theorem i32_toInt {z : Int} (h : -2147483648 ≤ z ∧ z < 2147483648) : (i32 z).toInt = z := by
  unfold i32
  rw [Int32.toInt_ofInt]
  rw [Int.bmod_eq_of_le] <;> (simp; omega)
theorem i32_of (x : Int32) : i32 x.toInt = x := Int32.ofInt_toInt x
theorem i32_rng (x : Int32) : -2147483648 ≤ x.toInt ∧ x.toInt < 2147483648 := by
  have a := x.le_toInt
  have b := x.toInt_lt
  omega
theorem i32_ex (x : Int32) : ∃ z : Int, -2147483648 ≤ z ∧ z < 2147483648 ∧ x = i32 z := ⟨x.toInt, (i32_rng x).1, (i32_rng x).2, (i32_of x).symm⟩
theorem i32_add (a b : Int) : i32 a + i32 b = i32 (a + b) := (Int32.ofInt_add a b).symm
theorem i32_sub (a b : Int) : i32 a - i32 b = i32 (a - b) := (Int32.ofInt_sub a b).symm
theorem i32_mul (a b : Int) : i32 a * i32 b = i32 (a * b) := (Int32.ofInt_mul a b).symm
theorem i32_neg (a : Int) : -i32 a = i32 (-a) := (Int32.ofInt_neg a).symm
theorem i32_le {a b : Int} (h : (-2147483648 ≤ a ∧ a < 2147483648) ∧ (-2147483648 ≤ b ∧ b < 2147483648)) : (i32 a ≤ i32 b) = (a ≤ b) := by
  rw [Int32.le_iff_toInt_le, i32_toInt h.1, i32_toInt h.2]
theorem i32_lt {a b : Int} (h : (-2147483648 ≤ a ∧ a < 2147483648) ∧ (-2147483648 ≤ b ∧ b < 2147483648)) : (i32 a < i32 b) = (a < b) := by
  rw [Int32.lt_iff_toInt_lt, i32_toInt h.1, i32_toInt h.2]
theorem i32_eq {a b : Int} (h : (-2147483648 ≤ a ∧ a < 2147483648) ∧ (-2147483648 ≤ b ∧ b < 2147483648)) : (i32 a = i32 b) = (a = b) := by
  rw [← Int32.toInt_inj, i32_toInt h.1, i32_toInt h.2]
theorem i32_clamp {z : Int} (h : 0 ≤ z ∧ z < 2147483648) : (i32 z).toNatClampNeg = z.toNat := by
  unfold Int32.toNatClampNeg
  rw [i32_toInt (by omega)]
theorem L_0 : (0 : Int32) = i32 0 := by decide
theorem L_1 : (1 : Int32) = i32 1 := by decide
theorem L_2 : (2 : Int32) = i32 2 := by decide
theorem L_3 : (3 : Int32) = i32 3 := by decide
theorem L_4 : (4 : Int32) = i32 4 := by decide
theorem L_5 : (5 : Int32) = i32 5 := by decide
theorem L_8 : (8 : Int32) = i32 8 := by decide
theorem L_9 : (9 : Int32) = i32 9 := by decide
theorem L_m1 : (-1 : Int32) = i32 (-1) := by decide
theorem L_1000 : (1000 : Int32) = i32 1000 := by decide
theorem tdiv_tmod (a b : Int) : a - a.tdiv b * b = a.tmod b := by
  have := Int.tmod_add_mul_tdiv a b
  rw [Int.mul_comm] at this
  omega
theorem i32_rem {a b : Int} (ha : -2147483648 < a ∧ a < 2147483648) (hb : -2147483648 ≤ b ∧ b < 2147483648) : xrem (i32 a) (i32 b) = i32 (a.tmod b) := by
  unfold xrem
  have hd : i32 a / i32 b = i32 (a.tdiv b) := by
    apply Int32.toInt_inj.mp
    rw [Int32.toInt_div, i32_toInt (by omega), i32_toInt hb]
    have h1 : (a.tdiv b).natAbs ≤ a.natAbs := by
      rw [Int.natAbs_tdiv]; exact Nat.div_le_self _ _
    rw [i32_toInt (by omega), Int.bmod_eq_of_le] <;> (simp; omega)
  rw [hd, i32_mul, i32_sub, tdiv_tmod]
theorem ile_t {a b : Int} {α : Sort _} {x y : α} (h : -2147483648 ≤ a ∧ a ≤ b ∧ b < 2147483648) : (if i32 a ≤ i32 b then x else y) = x := if_pos (by rw [i32_le (by omega)]; exact h.2.1)
theorem ile_f {a b : Int} {α : Sort _} {x y : α} (h : -2147483648 ≤ b ∧ b < a ∧ a < 2147483648) : (if i32 a ≤ i32 b then x else y) = y := if_neg (by rw [i32_le (by omega)]; omega)
theorem ilt_t {a b : Int} {α : Sort _} {x y : α} (h : -2147483648 ≤ a ∧ a < b ∧ b < 2147483648) : (if i32 a < i32 b then x else y) = x := if_pos (by rw [i32_lt (by omega)]; exact h.2.1)
theorem ilt_f {a b : Int} {α : Sort _} {x y : α} (h : -2147483648 ≤ b ∧ b ≤ a ∧ a < 2147483648) : (if i32 a < i32 b then x else y) = y := if_neg (by rw [i32_lt (by omega)]; omega)
theorem ieq_t {a b : Int} {α : Sort _} {x y : α} (h : a = b) : (if i32 a = i32 b then x else y) = x := if_pos (by rw [h])
theorem ieq_f {a b : Int} {α : Sort _} {x y : α} (h : (-2147483648 ≤ a ∧ a < 2147483648) ∧ (-2147483648 ≤ b ∧ b < 2147483648) ∧ a ≠ b) : (if i32 a = i32 b then x else y) = y := if_neg (by rw [i32_eq ⟨h.1, h.2.1⟩]; exact h.2.2)
theorem cle {a b : Int} {α : Sort _} {x y : α} (h : (-2147483648 ≤ a ∧ a < 2147483648) ∧ (-2147483648 ≤ b ∧ b < 2147483648)) : (if i32 a ≤ i32 b then x else y) = (if a ≤ b then x else y) := by
  by_cases q : a ≤ b
  · rw [if_pos q, ile_t (by omega)]
  · rw [if_neg q, ile_f (by omega)]
theorem clt {a b : Int} {α : Sort _} {x y : α} (h : (-2147483648 ≤ a ∧ a < 2147483648) ∧ (-2147483648 ≤ b ∧ b < 2147483648)) : (if i32 a < i32 b then x else y) = (if a < b then x else y) := by
  by_cases q : a < b
  · rw [if_pos q, ilt_t (by omega)]
  · rw [if_neg q, ilt_f (by omega)]
theorem ceq {a b : Int} {α : Sort _} {x y : α} (h : (-2147483648 ≤ a ∧ a < 2147483648) ∧ (-2147483648 ≤ b ∧ b < 2147483648)) : (if i32 a = i32 b then x else y) = (if a = b then x else y) := by
  by_cases q : a = b
  · rw [if_pos q, ieq_t q]
  · rw [if_neg q, ieq_f ⟨h.1, h.2, q⟩]
theorem emod_tmod {a b : Int} (hb : 0 < b) : a % b = if 0 ≤ a.tmod b then a.tmod b else a.tmod b + b := by
  have r1 : -b < a.tmod b ∧ a.tmod b < b := ⟨by have := Int.lt_tmod_of_pos a hb; omega, Int.tmod_lt_of_pos a hb⟩
  have e := Int.tmod_add_mul_tdiv a b
  have h1 : a % b = (a.tmod b) % b := by
    conv => lhs; rw [← e]
    rw [Int.add_mul_emod_self_left]
  rw [h1]
  split
  · exact Int.emod_eq_of_lt (by assumption) r1.2
  · have : a.tmod b % b = (a.tmod b + b) % b := by rw [Int.add_emod_right]
    rw [this]
    exact Int.emod_eq_of_lt (by omega) (by omega)
theorem tmod_rng {a b : Int} (hb : 0 < b) : -b < a.tmod b ∧ a.tmod b < b := ⟨by have := Int.lt_tmod_of_pos a hb; omega, Int.tmod_lt_of_pos a hb⟩
theorem mod_ok {a b : Int} (ha : -2147483648 < a ∧ a < 2147483648) (hb : 0 < b ∧ b < 1073741824) : fX8_mod (i32 a) (i32 b) = some (i32 (a % b)) := by
  unfold fX8_mod
  have r1 := tmod_rng (a := a) hb.1
  rw [i32_rem ha (by omega), L_0, ilt_t (by omega), ieq_f (by omega), cle (by omega), i32_add, emod_tmod hb.1]
  by_cases h : 0 ≤ a.tmod b
  · rw [if_pos h, if_pos h]
  · rw [if_neg h, if_neg h]
theorem modulo_ok {a b : Int} (ha : -2147483648 < a ∧ a < 2147483648) (hb : 0 < b ∧ b < 1073741824) : fX9_modulo (i32 a) (i32 b) = some (i32 (a % b)) := by
  unfold fX9_modulo
  have r1 := tmod_rng (a := a) hb.1
  rw [L_0, ieq_f (by omega), i32_rem ha (by omega), emod_tmod hb.1]
  rw [cle (by omega), i32_add]
  by_cases h : 0 ≤ a.tmod b
  · rw [if_pos h, if_pos h]
  · rw [if_neg h, if_neg h]
/-! loops -/
theorem xl_run {σ ε : Type} (b : σ → Option (σ ⊕ ε)) (S : Nat → σ) (k : Nat) (e : ε) (hs : ∀ i, i < k → b (S i) = some (.inl (S (i + 1)))) (he : b (S k) = some (.inr e)) : ∀ f, k < f → xloop b f (S 0) = some e := by
  have key : ∀ (d i f : Nat), i + d = k → d < f → xloop b f (S i) = some e := by
    intro d
    induction d with
    | zero =>
      intro i f h1 h2
      obtain ⟨f, rfl⟩ : ∃ g, f = g + 1 := ⟨f - 1, by omega⟩
      have : i = k := by omega
      subst this
      simp only [xloop, he]
    | succ d ih =>
      intro i f h1 h2
      obtain ⟨f, rfl⟩ : ∃ g, f = g + 1 := ⟨f - 1, by omega⟩
      simp only [xloop, hs i (by omega)]
      exact ih (i + 1) f (by omega) (by omega)
  intro f hf
  exact key k 0 f (by omega) hf
theorem xl_inv {σ ε : Type} (b : σ → Option (σ ⊕ ε)) (I : Nat → σ → Prop) (k : Nat) (E : ε → Prop) (hs : ∀ i s, i < k → I i s → ∃ s', b s = some (.inl s') ∧ I (i + 1) s') (he : ∀ s, I k s → ∃ e, b s = some (.inr e) ∧ E e) : ∀ s, I 0 s → ∀ f, k < f → ∃ e, xloop b f s = some e ∧ E e := by
  have key : ∀ (d i f : Nat) (s : σ), i + d = k → d < f → I i s → ∃ e, xloop b f s = some e ∧ E e := by
    intro d
    induction d with
    | zero =>
      intro i f s h1 h2 hI
      obtain ⟨f, rfl⟩ : ∃ g, f = g + 1 := ⟨f - 1, by omega⟩
      have : i = k := by omega
      subst this
      obtain ⟨e, q1, q2⟩ := he s hI
      exact ⟨e, by simp only [xloop, q1], q2⟩
    | succ d ih =>
      intro i f s h1 h2 hI
      obtain ⟨f, rfl⟩ : ∃ g, f = g + 1 := ⟨f - 1, by omega⟩
      obtain ⟨s', q1, q2⟩ := hs i s (by omega) hI
      obtain ⟨e, q3, q4⟩ := ih (i + 1) f s' (by omega) (by omega) q2
      exact ⟨e, by simp only [xloop, q1, q3], q4⟩
  intro s hI f hf
  exact key k 0 f s (by omega) hf hI
/-- counting -/
def cnt (P : Nat → Bool) : Nat → Nat
  | 0 => 0
  | n + 1 => cnt P n + (if P n then 1 else 0)
theorem cnt_le (P : Nat → Bool) : ∀ n, cnt P n ≤ n
  | 0 => Nat.le_refl _
  | n + 1 => by have := cnt_le P n; simp only [cnt]; split <;> omega
theorem cnt_congr {P Q : Nat → Bool} : ∀ {n : Nat}, (∀ i, i < n → P i = Q i) → cnt P n = cnt Q n
  | 0, _ => rfl
  | n + 1, h => by simp only [cnt, h n (by omega), cnt_congr (n := n) (fun i hi => h i (by omega))]
theorem cnt_mono (P : Nat → Bool) {a b : Nat} (h : a ≤ b) : cnt P a ≤ cnt P b := by
  obtain ⟨d, rfl⟩ := Nat.exists_eq_add_of_le h
  induction d with
  | zero => exact Nat.le_refl _
  | succ d ih => have := ih (by omega); show cnt P a ≤ cnt P (a + d) + _; split <;> omega
end
section
/-! reading and writing cells that are known -/
theorem gI {h : XH} {a ci : Nat} {fs : List Value} (ha : h a = some (.inl (ci, fs))) (k : Nat) {v : Int32} (hk : fs[k]? = some (.int v)) : xgI h a ci k = some v := by simp [xgI, xgf, ha, hk]
theorem gJ {h : XH} {a ci : Nat} {fs : List Value} (ha : h a = some (.inl (ci, fs))) (k : Nat) {v : Int64} (hk : fs[k]? = some (.long v)) : xgJ h a ci k = some v := by simp [xgJ, xgf, ha, hk]
theorem gR {h : XH} {a ci : Nat} {fs : List Value} (ha : h a = some (.inl (ci, fs))) (k : Nat) {v : Nat} (hk : fs[k]? = some (.ref v)) : xgR h a ci k = some v := by simp [xgR, xgf, ha, hk]
theorem gC {h : XH} {a ci : Nat} {fs : List Value} (ha : h a = some (.inl (ci, fs))) : xco h a ci = some () := by simp [xco, ha]
theorem gP {h : XH} {a ci : Nat} {fs : List Value} (ha : h a = some (.inl (ci, fs))) (k : Nat) (v : Value) (hk : k < fs.length) : xpf h a ci k v = some (xup h a (.inl (ci, fs.set k v))) := by simp [xpf, ha, hk]
theorem gL {h : XH} {a t n : Nat} {x : _} (ha : h a = some (.inr (t, n, x))) (ht : t < 3) : xln h a = some (i32 n) := by
  simp [xln, ha, ht]
  rfl
theorem bnd_ok {i : Int} {n : Nat} (hi : 0 ≤ i ∧ i < n) (hn : n < 2147483648) : ¬ (i32 i < 0 ∨ n ≤ (i32 i).toNatClampNeg) := by
  rw [L_0, i32_lt (by omega), i32_clamp (by omega)]
  omega
theorem gA {h : XH} {a t n : Nat} {f : Nat → Int32} (ha : h a = some (.inr (t, n, .inl f))) {i : Int} (hi : 0 ≤ i ∧ i < n) (hn : n < 2147483648) : xaI h a t (i32 i) = some (f i.toNat) := by
  simp only [xaI, ha]
  rw [if_pos ⟨trivial, bnd_ok hi hn⟩, i32_clamp (by omega)]
theorem gS {h : XH} {a t n : Nat} {f : Nat → Int32} (ha : h a = some (.inr (t, n, .inl f))) {i : Int} (v : Int32) (hi : 0 ≤ i ∧ i < n) (hn : n < 2147483648) : xsI h a t (i32 i) v = some (xup h a (.inr (t, n, .inl (upd f i.toNat v)))) := by
  simp only [xsI, ha]
  rw [if_pos ⟨trivial, bnd_ok hi hn⟩, i32_clamp (by omega)]
theorem xup_s (h : XH) (a : Nat) (e : XE) : xup h a e a = some e := by simp [xup]
theorem xup_n (h : XH) {a b : Nat} (e : XE) (q : b ≠ a) : xup h a e b = h b := by simp [xup, q]
def R32 (a : Int) : Prop := -2147483648 ≤ a ∧ a < 2147483648
theorem within_ok {x a b : Int} (hx : -2147483648 ≤ x ∧ x < 2147483648) (ha : -2147483648 ≤ a ∧ a < 2147483648) (hb : -2147483648 ≤ b ∧ b < 2147483648) : fX8_within (i32 x) (i32 a) (i32 b) = some (decide (a ≤ x ∧ x ≤ b)) := by
  unfold fX8_within
  rw [clt (by omega), clt (by omega)]
  by_cases h1 : x < a
  · rw [if_pos h1, decide_eq_false (by omega)]
  · by_cases h2 : b < x
    · rw [if_neg h1, if_pos h2, decide_eq_false (by omega)]
    · rw [if_neg h1, if_neg h2, decide_eq_true (by omega)]
theorem in_ok {x a b : Int} (hx : -2147483648 ≤ x ∧ x < 2147483648) (ha : -2147483648 ≤ a ∧ a < 2147483648) (hb : -2147483648 ≤ b ∧ b < 2147483648) : fX9_in (i32 x) (i32 a) (i32 b) = some (decide (a ≤ x ∧ x ≤ b)) := by
  unfold fX9_in
  rw [clt (by omega), clt (by omega)]
  by_cases h1 : x < a
  · rw [if_pos h1, decide_eq_false (by omega)]
  · by_cases h2 : b < x
    · rw [if_neg h1, if_pos h2, decide_eq_false (by omega)]
    · rw [if_neg h1, if_neg h2, decide_eq_true (by omega)]
theorem at_ok {h : XH} {a n : Nat} {f : Nat → Int32} (ha : h a = some (.inr (0, n, .inl f))) (hn : n < 2147483648) {i : Int} (hi : -2147483648 ≤ i ∧ i < 2147483648) : fX8_at h a (i32 i) = some (if 0 ≤ i ∧ i < n then f i.toNat else 0) := by
  unfold fX8_at
  rw [L_0, clt (by omega)]
  by_cases h1 : i < 0
  · rw [if_pos h1, if_neg (by omega)]
  · rw [if_neg h1, gL ha (by omega)]
    simp only [Option.bind_some]
    rw [cle (by omega)]
    by_cases h2 : (n : Int) ≤ i
    · rw [if_pos h2, if_neg (by omega)]
    · rw [if_neg h2, gA ha (by omega) hn, if_pos (by omega)]
      rfl
theorem put_ok {h : XH} {a n : Nat} {f : Nat → Int32} (ha : h a = some (.inr (0, n, .inl f))) (hn : n < 2147483648) {i : Int} (v : Int32) (hi : -2147483648 ≤ i ∧ i < 2147483648) : fX8_put h a (i32 i) v = some (if 0 ≤ i ∧ i < n then xup h a (.inr (0, n, .inl (upd f i.toNat v))) else h) := by
  unfold fX8_put
  rw [L_0, clt (by omega)]
  by_cases h1 : i < 0
  · rw [if_pos h1, if_neg (by omega)]
  · rw [if_neg h1, gL ha (by omega)]
    simp only [Option.bind_some]
    rw [cle (by omega)]
    by_cases h2 : (n : Int) ≤ i
    · rw [if_pos h2, if_neg (by omega)]
    · rw [if_neg h2, gS ha v (by omega) hn, if_pos (by omega)]
      rfl
/-! what a page of numbers must be: 0 cells, 1.. marks, 61 start, 62 speed, 63 changes, 64.. ticks and speeds, 74 first, 75 period, 76 readings, 77.. ticks and steps, 93 limit, 94 disc, 95 open, 96 its start, 97 its speed -/
def VP (p : Nat → Int) : Prop :=
  (1 ≤ p 0 ∧ p 0 ≤ 60) ∧ (∀ k : Nat, k < 60 → 0 ≤ p (1 + k) ∧ p (1 + k) ≤ 3) ∧ (0 ≤ p 61 ∧ p 61 ≤ 59) ∧ (-1000 ≤ p 62 ∧ p 62 ≤ 1000) ∧ (0 ≤ p 63 ∧ p 63 ≤ 5) ∧
  (∀ k : Nat, (k : Int) < p 63 → (1 ≤ p (64 + 2 * k) ∧ p (64 + 2 * k) ≤ 1000) ∧ (-1000 ≤ p (65 + 2 * k) ∧ p (65 + 2 * k) ≤ 1000)) ∧ (∀ j k : Nat, j < k → (k : Int) < p 63 → p (64 + 2 * j) < p (64 + 2 * k)) ∧
  (0 ≤ p 74 ∧ p 74 ≤ 1000) ∧ (1 ≤ p 75 ∧ p 75 ≤ 500) ∧ (0 ≤ p 76 ∧ p 76 ≤ 8) ∧ (∀ k : Nat, (k : Int) < p 76 → (1 ≤ p (77 + 2 * k) ∧ p (77 + 2 * k) ≤ 500) ∧ (-30 ≤ p (78 + 2 * k) ∧ p (78 + 2 * k) ≤ 30)) ∧
  (1 ≤ p 93 ∧ p 93 ≤ 1000) ∧ (1 ≤ p 94 ∧ p 94 ≤ 30) ∧ (0 ≤ p 95 ∧ p 95 < 2 ^ (p 94).toNat) ∧ (0 ≤ p 96 ∧ p 96 ≤ 29) ∧ (-1000 ≤ p 97 ∧ p 97 ≤ 1000)
theorem VP.n {p : Nat → Int} (h : VP p) : 1 ≤ p 0 ∧ p 0 ≤ 60 := h.1
theorem VP.mk {p : Nat → Int} (h : VP p) : ∀ k : Nat, k < 60 → 0 ≤ p (1 + k) ∧ p (1 + k) ≤ 3 := h.2.1
theorem VP.start {p : Nat → Int} (h : VP p) : 0 ≤ p 61 ∧ p 61 ≤ 59 := h.2.2.1
theorem VP.speed {p : Nat → Int} (h : VP p) : -1000 ≤ p 62 ∧ p 62 ≤ 1000 := h.2.2.2.1
theorem VP.ch {p : Nat → Int} (h : VP p) : 0 ≤ p 63 ∧ p 63 ≤ 5 := h.2.2.2.2.1
theorem VP.cht {p : Nat → Int} (h : VP p) : ∀ k : Nat, (k : Int) < p 63 → (1 ≤ p (64 + 2 * k) ∧ p (64 + 2 * k) ≤ 1000) ∧ (-1000 ≤ p (65 + 2 * k) ∧ p (65 + 2 * k) ≤ 1000) := h.2.2.2.2.2.1
theorem VP.srt {p : Nat → Int} (h : VP p) : ∀ j k : Nat, j < k → (k : Int) < p 63 → p (64 + 2 * j) < p (64 + 2 * k) := h.2.2.2.2.2.2.1
theorem VP.first {p : Nat → Int} (h : VP p) : 0 ≤ p 74 ∧ p 74 ≤ 1000 := h.2.2.2.2.2.2.2.1
theorem VP.per {p : Nat → Int} (h : VP p) : 1 ≤ p 75 ∧ p 75 ≤ 500 := h.2.2.2.2.2.2.2.2.1
theorem VP.rd {p : Nat → Int} (h : VP p) : 0 ≤ p 76 ∧ p 76 ≤ 8 := h.2.2.2.2.2.2.2.2.2.1
theorem VP.rdt {p : Nat → Int} (h : VP p) : ∀ k : Nat, (k : Int) < p 76 → (1 ≤ p (77 + 2 * k) ∧ p (77 + 2 * k) ≤ 500) ∧ (-30 ≤ p (78 + 2 * k) ∧ p (78 + 2 * k) ≤ 30) := h.2.2.2.2.2.2.2.2.2.2.1
theorem VP.lim {p : Nat → Int} (h : VP p) : 1 ≤ p 93 ∧ p 93 ≤ 1000 := h.2.2.2.2.2.2.2.2.2.2.2.1
theorem VP.m {p : Nat → Int} (h : VP p) : 1 ≤ p 94 ∧ p 94 ≤ 30 := h.2.2.2.2.2.2.2.2.2.2.2.2.1
theorem VP.op {p : Nat → Int} (h : VP p) : 0 ≤ p 95 ∧ p 95 < 2 ^ (p 94).toNat := h.2.2.2.2.2.2.2.2.2.2.2.2.2.1
theorem VP.ds {p : Nat → Int} (h : VP p) : 0 ≤ p 96 ∧ p 96 ≤ 29 := h.2.2.2.2.2.2.2.2.2.2.2.2.2.2.1
theorem VP.dv {p : Nat → Int} (h : VP p) : -1000 ≤ p 97 ∧ p 97 ≤ 1000 := h.2.2.2.2.2.2.2.2.2.2.2.2.2.2.2
/-! the class's blocks -/
def WhAt (h : XH) (w : Nat) (p : Nat → Int) : Prop := ∃ fm ft fs : Nat → Int32,
  h w = some (.inl (6, [.ref (w + 1), .ref (w + 2), .ref (w + 3), .int (i32 (p 0)), .int (i32 (p 61)), .int (i32 (p 62)), .int (i32 (p 63))])) ∧
  h (w + 1) = some (.inr (0, 60, .inl fm)) ∧ h (w + 2) = some (.inr (0, 5, .inl ft)) ∧ h (w + 3) = some (.inr (0, 5, .inl fs)) ∧
  (∀ k : Nat, k < 60 → (k : Int) < p 0 → fm k = i32 (p (1 + k))) ∧ (∀ k : Nat, k < 5 → (k : Int) < p 63 → ft k = i32 (p (64 + 2 * k)) ∧ fs k = i32 (p (65 + 2 * k)))
def FlAt (h : XH) (a : Nat) (p : Nat → Int) : Prop := h a = some (.inl (2, [.int (i32 (p 74)), .int (i32 (p 75))]))
def RdAt (h : XH) (a : Nat) (p : Nat → Int) : Prop := ∃ ft fs : Nat → Int32,
  h a = some (.inl (4, [.ref (a + 1), .ref (a + 2), .int (i32 (p 76)), .int (i32 (p 93))])) ∧
  h (a + 1) = some (.inr (0, 8, .inl ft)) ∧ h (a + 2) = some (.inr (0, 8, .inl fs)) ∧ (∀ k : Nat, k < 8 → (k : Int) < p 76 → ft k = i32 (p (77 + 2 * k)) ∧ fs k = i32 (p (78 + 2 * k)))
def DiAt (h : XH) (a : Nat) (p : Nat → Int) : Prop := h a = some (.inl (1, [.int (i32 (p 94)), .int (i32 (p 95)), .int (i32 (p 96)), .int (i32 (p 97))]))
def StAt (h : XH) (a : Nat) (p : Nat → Int) : Prop := h a = some (.inl (5, [.ref (a + 1), .ref (a + 5), .ref (a + 6), .ref (a + 9)])) ∧ WhAt h (a + 1) p ∧ FlAt h (a + 5) p ∧ RdAt h (a + 6) p ∧ DiAt h (a + 9) p
theorem WhAt.c {h : XH} {w : Nat} {p : Nat → Int} (H : WhAt h w p) : xco h w 6 = some () := by obtain ⟨_, _, _, e, -⟩ := H; exact gC e
theorem WhAt.r0 {h : XH} {w : Nat} {p : Nat → Int} (H : WhAt h w p) : xgR h w 6 0 = some (w + 1) := by obtain ⟨_, _, _, e, -⟩ := H; exact gR e 0 rfl
theorem WhAt.r1 {h : XH} {w : Nat} {p : Nat → Int} (H : WhAt h w p) : xgR h w 6 1 = some (w + 2) := by obtain ⟨_, _, _, e, -⟩ := H; exact gR e 1 rfl
theorem WhAt.r2 {h : XH} {w : Nat} {p : Nat → Int} (H : WhAt h w p) : xgR h w 6 2 = some (w + 3) := by obtain ⟨_, _, _, e, -⟩ := H; exact gR e 2 rfl
theorem WhAt.i3 {h : XH} {w : Nat} {p : Nat → Int} (H : WhAt h w p) : xgI h w 6 3 = some (i32 (p 0)) := by obtain ⟨_, _, _, e, -⟩ := H; exact gI e 3 rfl
theorem WhAt.i4 {h : XH} {w : Nat} {p : Nat → Int} (H : WhAt h w p) : xgI h w 6 4 = some (i32 (p 61)) := by obtain ⟨_, _, _, e, -⟩ := H; exact gI e 4 rfl
theorem WhAt.i5 {h : XH} {w : Nat} {p : Nat → Int} (H : WhAt h w p) : xgI h w 6 5 = some (i32 (p 62)) := by obtain ⟨_, _, _, e, -⟩ := H; exact gI e 5 rfl
theorem WhAt.i6 {h : XH} {w : Nat} {p : Nat → Int} (H : WhAt h w p) : xgI h w 6 6 = some (i32 (p 63)) := by obtain ⟨_, _, _, e, -⟩ := H; exact gI e 6 rfl
theorem WhAt.mark {h : XH} {w : Nat} {p : Nat → Int} (H : WhAt h w p) (hV : VP p) {i : Int} (hi : 0 ≤ i ∧ i < p 0) : fX8_at h (w + 1) (i32 i) = some (i32 (p (1 + i.toNat))) := by
  obtain ⟨fm, _, _, -, e, -, -, q, -⟩ := H
  have := hV.n
  rw [at_ok e (by omega) (by omega), if_pos (by omega), q _ (by omega) (by omega)]
theorem WhAt.ctk {h : XH} {w : Nat} {p : Nat → Int} (H : WhAt h w p) (hV : VP p) {i : Int} (hi : 0 ≤ i ∧ i < p 63) : fX8_at h (w + 2) (i32 i) = some (i32 (p (64 + 2 * i.toNat))) := by
  obtain ⟨_, ft, _, -, -, e, -, -, q⟩ := H
  have := hV.ch
  rw [at_ok e (by omega) (by omega), if_pos (by omega), (q _ (by omega) (by omega)).1]
theorem WhAt.csp {h : XH} {w : Nat} {p : Nat → Int} (H : WhAt h w p) (hV : VP p) {i : Int} (hi : 0 ≤ i ∧ i < p 63) : fX8_at h (w + 3) (i32 i) = some (i32 (p (65 + 2 * i.toNat))) := by
  obtain ⟨_, _, fs, -, -, -, e, -, q⟩ := H
  have := hV.ch
  rw [at_ok e (by omega) (by omega), if_pos (by omega), (q _ (by omega) (by omega)).2]
theorem FlAt.c {h : XH} {a : Nat} {p : Nat → Int} (H : FlAt h a p) : xco h a 2 = some () := gC H
theorem FlAt.i0 {h : XH} {a : Nat} {p : Nat → Int} (H : FlAt h a p) : xgI h a 2 0 = some (i32 (p 74)) := gI H 0 rfl
theorem FlAt.i1 {h : XH} {a : Nat} {p : Nat → Int} (H : FlAt h a p) : xgI h a 2 1 = some (i32 (p 75)) := gI H 1 rfl
theorem RdAt.c {h : XH} {a : Nat} {p : Nat → Int} (H : RdAt h a p) : xco h a 4 = some () := by obtain ⟨_, _, e, -⟩ := H; exact gC e
theorem RdAt.r0 {h : XH} {a : Nat} {p : Nat → Int} (H : RdAt h a p) : xgR h a 4 0 = some (a + 1) := by obtain ⟨_, _, e, -⟩ := H; exact gR e 0 rfl
theorem RdAt.r1 {h : XH} {a : Nat} {p : Nat → Int} (H : RdAt h a p) : xgR h a 4 1 = some (a + 2) := by obtain ⟨_, _, e, -⟩ := H; exact gR e 1 rfl
theorem RdAt.i2 {h : XH} {a : Nat} {p : Nat → Int} (H : RdAt h a p) : xgI h a 4 2 = some (i32 (p 76)) := by obtain ⟨_, _, e, -⟩ := H; exact gI e 2 rfl
theorem RdAt.i3 {h : XH} {a : Nat} {p : Nat → Int} (H : RdAt h a p) : xgI h a 4 3 = some (i32 (p 93)) := by obtain ⟨_, _, e, -⟩ := H; exact gI e 3 rfl
theorem RdAt.tk {h : XH} {a : Nat} {p : Nat → Int} (H : RdAt h a p) (hV : VP p) {i : Int} (hi : 0 ≤ i ∧ i < p 76) : fX8_at h (a + 1) (i32 i) = some (i32 (p (77 + 2 * i.toNat))) := by
  obtain ⟨ft, _, -, e, -, q⟩ := H
  have := hV.rd
  rw [at_ok e (by omega) (by omega), if_pos (by omega), (q _ (by omega) (by omega)).1]
theorem RdAt.sp {h : XH} {a : Nat} {p : Nat → Int} (H : RdAt h a p) (hV : VP p) {i : Int} (hi : 0 ≤ i ∧ i < p 76) : fX8_at h (a + 2) (i32 i) = some (i32 (p (78 + 2 * i.toNat))) := by
  obtain ⟨_, fs, -, -, e, q⟩ := H
  have := hV.rd
  rw [at_ok e (by omega) (by omega), if_pos (by omega), (q _ (by omega) (by omega)).2]
theorem DiAt.c {h : XH} {a : Nat} {p : Nat → Int} (H : DiAt h a p) : xco h a 1 = some () := gC H
theorem DiAt.i0 {h : XH} {a : Nat} {p : Nat → Int} (H : DiAt h a p) : xgI h a 1 0 = some (i32 (p 94)) := gI H 0 rfl
theorem DiAt.i1 {h : XH} {a : Nat} {p : Nat → Int} (H : DiAt h a p) : xgI h a 1 1 = some (i32 (p 95)) := gI H 1 rfl
theorem DiAt.i2 {h : XH} {a : Nat} {p : Nat → Int} (H : DiAt h a p) : xgI h a 1 2 = some (i32 (p 96)) := gI H 2 rfl
theorem DiAt.i3 {h : XH} {a : Nat} {p : Nat → Int} (H : DiAt h a p) : xgI h a 1 3 = some (i32 (p 97)) := gI H 3 rfl
theorem StAt.c {h : XH} {a : Nat} {p : Nat → Int} (H : StAt h a p) : xco h a 5 = some () := gC H.1
theorem StAt.r0 {h : XH} {a : Nat} {p : Nat → Int} (H : StAt h a p) : xgR h a 5 0 = some (a + 1) := gR H.1 0 rfl
theorem StAt.r1 {h : XH} {a : Nat} {p : Nat → Int} (H : StAt h a p) : xgR h a 5 1 = some (a + 5) := gR H.1 1 rfl
theorem StAt.r2 {h : XH} {a : Nat} {p : Nat → Int} (H : StAt h a p) : xgR h a 5 2 = some (a + 6) := gR H.1 2 rfl
theorem StAt.r3 {h : XH} {a : Nat} {p : Nat → Int} (H : StAt h a p) : xgR h a 5 3 = some (a + 9) := gR H.1 3 rfl
theorem StAt.w {h : XH} {a : Nat} {p : Nat → Int} (H : StAt h a p) : WhAt h (a + 1) p := H.2.1
theorem StAt.f {h : XH} {a : Nat} {p : Nat → Int} (H : StAt h a p) : FlAt h (a + 5) p := H.2.2.1
theorem StAt.rd {h : XH} {a : Nat} {p : Nat → Int} (H : StAt h a p) : RdAt h (a + 6) p := H.2.2.2.1
theorem StAt.d {h : XH} {a : Nat} {p : Nat → Int} (H : StAt h a p) : DiAt h (a + 9) p := H.2.2.2.2
theorem WhAt.fr {h h' : XH} {w : Nat} {p : Nat → Int} (H : WhAt h w p) (q : ∀ k, k < 4 → h' (w + k) = h (w + k)) : WhAt h' w p := by
  obtain ⟨a, b, c, e1, e2, e3, e4, r⟩ := H
  exact ⟨a, b, c, (q 0 (by omega)).trans e1, (q 1 (by omega)).trans e2, (q 2 (by omega)).trans e3, (q 3 (by omega)).trans e4, r⟩
theorem FlAt.fr {h h' : XH} {a : Nat} {p : Nat → Int} (H : FlAt h a p) (q : h' a = h a) : FlAt h' a p := q.trans H
theorem DiAt.fr {h h' : XH} {a : Nat} {p : Nat → Int} (H : DiAt h a p) (q : h' a = h a) : DiAt h' a p := q.trans H
theorem RdAt.fr {h h' : XH} {w : Nat} {p : Nat → Int} (H : RdAt h w p) (q : ∀ k, k < 3 → h' (w + k) = h (w + k)) : RdAt h' w p := by
  obtain ⟨a, b, e1, e2, e3, r⟩ := H
  exact ⟨a, b, (q 0 (by omega)).trans e1, (q 1 (by omega)).trans e2, (q 2 (by omega)).trans e3, r⟩
theorem StAt.fr {h h' : XH} {a : Nat} {p : Nat → Int} (H : StAt h a p) (q : ∀ k, k < 10 → h' (a + k) = h (a + k)) : StAt h' a p := by
  refine ⟨(q 0 (by omega)).trans H.1, H.w.fr (fun k hk => ?_), H.f.fr (q 5 (by omega)), H.rd.fr (fun k hk => ?_), H.d.fr (q 9 (by omega))⟩
  · have := q (1 + k) (by omega); rw [← Nat.add_assoc] at this; exact this
  · have := q (6 + k) (by omega); rw [← Nat.add_assoc] at this; exact this
end
section
/-! the measure -/
def cyc (n : Nat) (f : Nat → Int) (s : Nat) : Prop := ∀ i, i < n → f i = f ((i + s) % n)
def lin (n : Nat) (f : Nat → Int) (s : Nat) : Prop := ∀ c, c + s < n → f c = f (c + s)
theorem cyc_n {n : Nat} {f : Nat → Int} : cyc n f n := fun i hi => by rw [Nat.add_mod_right, Nat.mod_eq_of_lt hi]
theorem cyc_mul {n : Nat} {f : Nat → Int} {s : Nat} (h : cyc n f s) : ∀ (q i : Nat), i < n → f i = f ((i + q * s) % n)
  | 0, i, hi => by rw [Nat.zero_mul, Nat.add_zero, Nat.mod_eq_of_lt hi]
  | q + 1, i, hi => by
    have h1 := cyc_mul h q i hi
    have h2 := h ((i + q * s) % n) (Nat.mod_lt _ (by omega))
    rw [h1, h2]
    congr 1
    rw [Nat.mod_add_mod]
    congr 1
    rw [Nat.add_mul]
    omega
theorem cyc_mod {n : Nat} {f : Nat → Int} {s : Nat} (h : cyc n f s) : cyc n f (n % s) := by
  intro i hi
  have h1 := cyc_mul h (n / s) ((i + n % s) % n) (Nat.mod_lt _ (by omega))
  rw [h1, Nat.mod_add_mod]
  have e : i + n % s + n / s * s = i + n := by
    have := Nat.mod_add_div n s
    rw [Nat.mul_comm] at this
    omega
  rw [e, Nat.add_mod_right, Nat.mod_eq_of_lt hi]
def IsMsr (n : Nat) (f : Nat → Int) (s : Nat) : Prop := 1 ≤ s ∧ s ≤ n ∧ cyc n f s ∧ ∀ t, 1 ≤ t → t < s → ¬ cyc n f t
theorem msr_ex {n : Nat} {f : Nat → Int} (hn : 0 < n) : ∃ s, IsMsr n f s := by
  obtain ⟨k, ⟨h1, h2⟩, h3⟩ := pk_least (fun t => 1 ≤ t ∧ cyc n f t) ⟨n, hn, cyc_n⟩
  refine ⟨k, h1, ?_, h2, fun t ht hl hc => h3 t hl ⟨ht, hc⟩⟩
  rcases Nat.lt_or_ge n k with q | q
  · exact absurd ⟨hn, cyc_n⟩ (h3 n q)
  · exact q
noncomputable def msr (p : Nat → Int) : Nat := Classical.epsilon (IsMsr (p 0).toNat (fun i => p (1 + i)))
theorem msr_ok {p : Nat → Int} (hV : VP p) : IsMsr (p 0).toNat (fun i => p (1 + i)) (msr p) :=
  Classical.epsilon_spec (msr_ex (by have := hV.n; omega))
theorem msr_rng {p : Nat → Int} (hV : VP p) : 1 ≤ msr p ∧ (msr p : Int) ≤ p 0 ∧ msr p ≤ 60 := by
  have h := msr_ok hV
  have := hV.n
  have h1 := h.1
  have h2 := h.2.1
  omega
theorem msr_dvd {p : Nat → Int} (hV : VP p) : msr p ∣ (p 0).toNat := by
  obtain ⟨h1, h2, h3, h4⟩ := msr_ok hV
  rcases Nat.eq_zero_or_pos ((p 0).toNat % msr p) with q | q
  · exact Nat.dvd_of_mod_eq_zero q
  · exact absurd (cyc_mod h3) (h4 _ q (Nat.mod_lt _ h1))
theorem lin_of_cyc {n : Nat} {f : Nat → Int} {s : Nat} (h : cyc n f s) : lin n f s := fun c hc => by
  have := h c (by omega)
  rwa [Nat.mod_eq_of_lt hc] at this
theorem lin_mul {n : Nat} {f : Nat → Int} {s : Nat} (h : lin n f s) : ∀ (q c : Nat), c + q * s < n → f c = f (c + q * s)
  | 0, c, _ => by simp
  | q + 1, c, hc => by
    rw [Nat.add_mul] at hc
    have h1 := lin_mul h q c (by omega)
    have h2 := h (c + q * s) (by omega)
    rw [h1, h2]
    congr 1
    rw [Nat.add_mul]
    omega
theorem cyc_of_lin {n : Nat} {f : Nat → Int} {s : Nat} (hs : s < n) (hd : s ∣ n) (h : lin n f s) : cyc n f s := by
  intro i hi
  rcases Nat.lt_or_ge (i + s) n with q | q
  · rw [Nat.mod_eq_of_lt q]; exact h i q
  · have e : (i + s) % n = i + s - n := by
      rw [Nat.mod_eq_sub_mod q, Nat.mod_eq_of_lt (by omega)]
    rw [e]
    obtain ⟨k, hk⟩ := hd
    have hk1 : 1 ≤ k := by
      rcases Nat.eq_zero_or_pos k with z | z
      · subst z; omega
      · exact z
    have h1 := lin_mul h (k - 1) (i + s - n) (by
      have : (k - 1) * s = n - s := by rw [Nat.sub_mul, hk, Nat.mul_comm]; simp
      omega)
    rw [h1]
    congr 1
    have : (k - 1) * s = n - s := by rw [Nat.sub_mul, hk, Nat.mul_comm]; simp
    omega
/-! the class's measure -/
theorem same_step {h : XH} {w : Nat} {p : Nat → Int} (H : WhAt h w p) (hV : VP p) {s i : Nat} (hs : 1 ≤ s ∧ s ≤ 60) (hi : (i : Int) + s < p 0) : fX6_isSameTurnedBy_B2 h w (i32 s) (i32 i) = some (if p (1 + i) = p (1 + (i + s)) then .inl (i32 (i + 1 : Nat)) else .inr (.inl ())) := by
  unfold fX6_isSameTurnedBy_B2 fX6_isSameTurnedBy_b2
  have hn := hV.n
  rw [H.i3]
  simp only [Option.bind_some]
  rw [i32_add, ile_f (by omega), H.r0]
  simp only [Option.bind_some]
  rw [H.mark hV (by omega), H.mark hV (by omega)]
  simp only [Option.bind_some]
  have m1 := hV.mk i (by omega)
  have m2 := hV.mk (i + s) (by omega)
  rw [show ((i : Int)).toNat = i by omega, show ((i : Int) + (s : Int)).toNat = i + s by omega, L_1, i32_add]
  rw [ceq (by omega)]
  split <;> rfl
theorem same_t {h : XH} {w : Nat} {p : Nat → Int} (H : WhAt h w p) (hV : VP p) {s : Nat} (hs : 1 ≤ s ∧ (s : Int) ≤ p 0) (hl : lin (p 0).toNat (fun i => p (1 + i)) s) : fX6_isSameTurnedBy h w (i32 s) = some true := by
  unfold fX6_isSameTurnedBy
  have hn := hV.n
  have e := xl_run (fX6_isSameTurnedBy_B2 h w (i32 s)) (fun i => i32 i) ((p 0).toNat - s) (.inr ()) (fun i hi => by
    rw [same_step H hV (by omega) (by omega), if_pos (hl i (by omega))]) (by
    unfold fX6_isSameTurnedBy_B2 fX6_isSameTurnedBy_b2
    rw [H.i3]
    simp only [Option.bind_some]
    rw [i32_add, ile_t (by omega)]) 5000 (by omega)
  rw [L_0, show i32 0 = i32 ((0 : Nat) : Int) from rfl, e]
  rfl
theorem same_f {h : XH} {w : Nat} {p : Nat → Int} (H : WhAt h w p) (hV : VP p) {s : Nat} (hs : 1 ≤ s ∧ (s : Int) ≤ p 0) (hl : ¬ lin (p 0).toNat (fun i => p (1 + i)) s) : fX6_isSameTurnedBy h w (i32 s) = some false := by
  unfold fX6_isSameTurnedBy
  have hn := hV.n
  have hex : ∃ c, c + s < (p 0).toNat ∧ p (1 + c) ≠ p (1 + (c + s)) := by
    apply Classical.byContradiction
    intro q
    exact hl fun c hc => Classical.byContradiction fun z => q ⟨c, hc, z⟩
  obtain ⟨k, ⟨h1, h2⟩, h3⟩ := pk_least _ hex
  have e := xl_run (fX6_isSameTurnedBy_B2 h w (i32 s)) (fun i => i32 i) k (.inl ()) (fun i hi => by
    rw [same_step H hV (by omega) (by omega), if_pos (Classical.byContradiction fun z => h3 i hi ⟨by omega, z⟩)]) (by
    rw [same_step H hV (by omega) (by omega), if_neg h2]) 5000 (by omega)
  rw [L_0, show i32 0 = i32 ((0 : Nat) : Int) from rfl, e]
  rfl
theorem cmsr_ok {h : XH} {w : Nat} {p : Nat → Int} (H : WhAt h w p) (hV : VP p) : fX6_measure h w = some (i32 (msr p)) := by
  unfold fX6_measure
  have hn := hV.n
  obtain ⟨m1, m2, m3, m4⟩ := msr_ok hV
  have hd := msr_dvd hV
  have step : ∀ i, i < msr p - 1 → fX6_measure_B2 h w (i32 (1 + i : Nat)) = some (.inl (i32 (1 + (i + 1) : Nat))) := by
    intro i hi
    unfold fX6_measure_B2 fX6_measure_b2
    rw [H.i3]
    simp only [Option.bind_some]
    rw [ile_f (by omega), mod_ok (by omega) (by omega)]
    simp only [Option.bind_some]
    have r := Int.emod_lt_of_pos (p 0) (show 0 < ((1 + i : Nat) : Int) by omega)
    have r0 := Int.emod_nonneg (p 0) (show ((1 + i : Nat) : Int) ≠ 0 by omega)
    rw [L_0, ceq (by omega), H.c]
    simp only [Option.bind_some]
    rw [L_1, i32_add]
    split
    · rename_i hz
      have hdv : (1 + i) ∣ (p 0).toNat := by
        have : ((1 + i : Nat) : Int) ∣ p 0 := Int.dvd_of_emod_eq_zero hz
        have e : p 0 = ((p 0).toNat : Int) := by omega
        rw [e] at this
        exact Int.ofNat_dvd.mp this
      rw [same_f H hV (by omega) (fun hl => m4 (1 + i) (by omega) (by omega) (cyc_of_lin (by omega) hdv hl))]
      rfl
    · rfl
  rcases Nat.lt_or_ge (msr p) (p 0).toNat with q | q
  · have e := xl_run (fX6_measure_B2 h w) (fun i => i32 (1 + i : Nat)) (msr p - 1) (.inl (i32 (msr p))) step (by
      unfold fX6_measure_B2 fX6_measure_b2
      rw [H.i3]
      simp only [Option.bind_some]
      rw [show 1 + (msr p - 1) = msr p by omega, ile_f (by omega), mod_ok (by omega) (by omega)]
      simp only [Option.bind_some]
      have hz : p 0 % (msr p : Int) = 0 := by
        have e : p 0 = ((p 0).toNat : Int) := by omega
        rw [e]
        exact Int.emod_eq_zero_of_dvd (Int.ofNat_dvd.mpr hd)
      rw [hz, L_0, ieq_t rfl, H.c]
      simp only [Option.bind_some]
      rw [same_t H hV (by omega) (lin_of_cyc m3)]
      rfl) 5000 (by omega)
    rw [L_1, show i32 1 = i32 ((1 + 0 : Nat) : Int) from rfl, e]
    rfl
  · have e := xl_run (fX6_measure_B2 h w) (fun i => i32 (1 + i : Nat)) (msr p - 1) (.inr ()) step (by
      unfold fX6_measure_B2 fX6_measure_b2
      rw [H.i3]
      simp only [Option.bind_some]
      rw [ile_t (by omega)]) 5000 (by omega)
    rw [L_1, show i32 1 = i32 ((1 + 0 : Nat) : Int) from rfl, e]
    simp only [Option.bind_some]
    rw [H.i3]
    simp only [Option.bind_some]
    congr 2
    omega
end
section
theorem L_m1004 : (-1004 : Int32) = i32 (-1004) := by decide
theorem L_m1003 : (-1003 : Int32) = i32 (-1003) := by decide
theorem L_m1002 : (-1002 : Int32) = i32 (-1002) := by decide
theorem L_m1001 : (-1001 : Int32) = i32 (-1001) := by decide
theorem L_m1000 : (-1000 : Int32) = i32 (-1000) := by decide
theorem L_m30 : (-30 : Int32) = i32 (-30) := by decide
theorem L_m10 : (-10 : Int32) = i32 (-10) := by decide
theorem L_6 : (6 : Int32) = i32 6 := by decide
theorem L_7 : (7 : Int32) = i32 7 := by decide
theorem L_10 : (10 : Int32) = i32 10 := by decide
theorem L_11 : (11 : Int32) = i32 11 := by decide
theorem L_12 : (12 : Int32) = i32 12 := by decide
theorem L_13 : (13 : Int32) = i32 13 := by decide
theorem L_14 : (14 : Int32) = i32 14 := by decide
theorem L_15 : (15 : Int32) = i32 15 := by decide
theorem L_16 : (16 : Int32) = i32 16 := by decide
theorem L_17 : (17 : Int32) = i32 17 := by decide
theorem L_18 : (18 : Int32) = i32 18 := by decide
theorem L_19 : (19 : Int32) = i32 19 := by decide
theorem L_20 : (20 : Int32) = i32 20 := by decide
theorem L_21 : (21 : Int32) = i32 21 := by decide
theorem L_22 : (22 : Int32) = i32 22 := by decide
theorem L_23 : (23 : Int32) = i32 23 := by decide
theorem L_24 : (24 : Int32) = i32 24 := by decide
theorem L_25 : (25 : Int32) = i32 25 := by decide
theorem L_26 : (26 : Int32) = i32 26 := by decide
theorem L_27 : (27 : Int32) = i32 27 := by decide
theorem L_28 : (28 : Int32) = i32 28 := by decide
theorem L_29 : (29 : Int32) = i32 29 := by decide
theorem L_30 : (30 : Int32) = i32 30 := by decide
theorem L_31 : (31 : Int32) = i32 31 := by decide
theorem L_32 : (32 : Int32) = i32 32 := by decide
theorem L_42 : (42 : Int32) = i32 42 := by decide
theorem L_45 : (45 : Int32) = i32 45 := by decide
theorem L_46 : (46 : Int32) = i32 46 := by decide
theorem L_48 : (48 : Int32) = i32 48 := by decide
theorem L_57 : (57 : Int32) = i32 57 := by decide
theorem L_59 : (59 : Int32) = i32 59 := by decide
theorem L_60 : (60 : Int32) = i32 60 := by decide
theorem L_61 : (61 : Int32) = i32 61 := by decide
theorem L_62 : (62 : Int32) = i32 62 := by decide
theorem L_63 : (63 : Int32) = i32 63 := by decide
theorem L_64 : (64 : Int32) = i32 64 := by decide
theorem L_74 : (74 : Int32) = i32 74 := by decide
theorem L_75 : (75 : Int32) = i32 75 := by decide
theorem L_76 : (76 : Int32) = i32 76 := by decide
theorem L_77 : (77 : Int32) = i32 77 := by decide
theorem L_80 : (80 : Int32) = i32 80 := by decide
theorem L_93 : (93 : Int32) = i32 93 := by decide
theorem L_94 : (94 : Int32) = i32 94 := by decide
theorem L_95 : (95 : Int32) = i32 95 := by decide
theorem L_96 : (96 : Int32) = i32 96 := by decide
theorem L_97 : (97 : Int32) = i32 97 := by decide
theorem L_98 : (98 : Int32) = i32 98 := by decide
theorem L_99 : (99 : Int32) = i32 99 := by decide
theorem L_100 : (100 : Int32) = i32 100 := by decide
theorem L_126 : (126 : Int32) = i32 126 := by decide
theorem L_127 : (127 : Int32) = i32 127 := by decide
theorem L_500 : (500 : Int32) = i32 500 := by decide
theorem L_882 : (882 : Int32) = i32 882 := by decide
theorem L_252645135 : (252645135 : Int32) = i32 252645135 := by decide
theorem L_858993459 : (858993459 : Int32) = i32 858993459 := by decide
theorem L_1431655765 : (1431655765 : Int32) = i32 1431655765 := by decide
theorem L_2147483647 : (2147483647 : Int32) = i32 2147483647 := by decide
/-! the model: its object at 102, its rows behind it; what lies below stays -/
def sup (S : Nat → Int32) (k : Nat) (v : Int32) : Nat → Int32 := fun j => if j = k then v else S j
def aup (A : Nat → Nat → Int32) (k : Nat) (v : Nat → Int32) : Nat → Nat → Int32 := fun j => if j = k then v else A j
theorem sup_s (S : Nat → Int32) (k : Nat) (v : Int32) : sup S k v k = v := by simp [sup]
theorem sup_n (S : Nat → Int32) {k j : Nat} (v : Int32) (h : j ≠ k) : sup S k v j = S j := by simp [sup, h]
theorem aup_s (A : Nat → Nat → Int32) (k : Nat) (v : Nat → Int32) : aup A k v k = v := by simp [aup]
theorem aup_n (A : Nat → Nat → Int32) {k j : Nat} (v : Nat → Int32) (h : j ≠ k) : aup A k v j = A j := by simp [aup, h]
def MF (S : Nat → Int32) (Z : Int64) : List Value := [.ref 103, .int (S 1), .ref 104, .int (S 3), .ref 105, .int (S 5), .int (S 6), .int (S 7), .int (S 8), .int (S 9), .ref 106, .ref 107, .int (S 12), .ref 108, .int (S 14), .int (S 15), .long Z]
def MdAt (h0 h : XH) (A : Nat → Nat → Int32) (S : Nat → Int32) (Z : Int64) : Prop :=
  (∀ b, b < 102 → h b = h0 b) ∧ h 102 = some (.inl (9, MF S Z)) ∧ h 103 = some (.inr (0, 980, .inl (A 0))) ∧ h 104 = some (.inr (0, 1001, .inl (A 1))) ∧ h 105 = some (.inr (0, 80, .inl (A 2))) ∧ h 106 = some (.inr (1, 60, .inl (A 3))) ∧ h 107 = some (.inr (0, 2001, .inl (A 4))) ∧ h 108 = some (.inr (0, 60, .inl (A 5)))
theorem MdAt.c {h0 h : XH} {A : Nat → Nat → Int32} {S : Nat → Int32} {Z : Int64} (M : MdAt h0 h A S Z) : xco h 102 9 = some () := gC M.2.1
theorem MdAt.r0 {h0 h : XH} {A : Nat → Nat → Int32} {S : Nat → Int32} {Z : Int64} (M : MdAt h0 h A S Z) : xgR h 102 9 0 = some 103 := gR M.2.1 0 rfl
theorem MdAt.r2 {h0 h : XH} {A : Nat → Nat → Int32} {S : Nat → Int32} {Z : Int64} (M : MdAt h0 h A S Z) : xgR h 102 9 2 = some 104 := gR M.2.1 2 rfl
theorem MdAt.r4 {h0 h : XH} {A : Nat → Nat → Int32} {S : Nat → Int32} {Z : Int64} (M : MdAt h0 h A S Z) : xgR h 102 9 4 = some 105 := gR M.2.1 4 rfl
theorem MdAt.r10 {h0 h : XH} {A : Nat → Nat → Int32} {S : Nat → Int32} {Z : Int64} (M : MdAt h0 h A S Z) : xgR h 102 9 10 = some 106 := gR M.2.1 10 rfl
theorem MdAt.r11 {h0 h : XH} {A : Nat → Nat → Int32} {S : Nat → Int32} {Z : Int64} (M : MdAt h0 h A S Z) : xgR h 102 9 11 = some 107 := gR M.2.1 11 rfl
theorem MdAt.r13 {h0 h : XH} {A : Nat → Nat → Int32} {S : Nat → Int32} {Z : Int64} (M : MdAt h0 h A S Z) : xgR h 102 9 13 = some 108 := gR M.2.1 13 rfl
theorem MdAt.i1 {h0 h : XH} {A : Nat → Nat → Int32} {S : Nat → Int32} {Z : Int64} (M : MdAt h0 h A S Z) : xgI h 102 9 1 = some (S 1) := gI M.2.1 1 rfl
theorem MdAt.p1 {h0 h : XH} {A : Nat → Nat → Int32} {S : Nat → Int32} {Z : Int64} (M : MdAt h0 h A S Z) (v : Int32) : ∃ h', xpf h 102 9 1 (.int v) = some h' ∧ MdAt h0 h' A (sup S 1 v) Z := by
  refine ⟨_, gP M.2.1 1 _ (Nat.le_of_ble_eq_true rfl), ?_⟩
  obtain ⟨e, -, e0, e1, e2, e3, e4, e5⟩ := M
  exact ⟨fun b hb => (xup_n _ _ (by omega)).trans (e b hb), xup_s _ _ _, e0, e1, e2, e3, e4, e5⟩
theorem MdAt.i3 {h0 h : XH} {A : Nat → Nat → Int32} {S : Nat → Int32} {Z : Int64} (M : MdAt h0 h A S Z) : xgI h 102 9 3 = some (S 3) := gI M.2.1 3 rfl
theorem MdAt.p3 {h0 h : XH} {A : Nat → Nat → Int32} {S : Nat → Int32} {Z : Int64} (M : MdAt h0 h A S Z) (v : Int32) : ∃ h', xpf h 102 9 3 (.int v) = some h' ∧ MdAt h0 h' A (sup S 3 v) Z := by
  refine ⟨_, gP M.2.1 3 _ (Nat.le_of_ble_eq_true rfl), ?_⟩
  obtain ⟨e, -, e0, e1, e2, e3, e4, e5⟩ := M
  exact ⟨fun b hb => (xup_n _ _ (by omega)).trans (e b hb), xup_s _ _ _, e0, e1, e2, e3, e4, e5⟩
theorem MdAt.i5 {h0 h : XH} {A : Nat → Nat → Int32} {S : Nat → Int32} {Z : Int64} (M : MdAt h0 h A S Z) : xgI h 102 9 5 = some (S 5) := gI M.2.1 5 rfl
theorem MdAt.p5 {h0 h : XH} {A : Nat → Nat → Int32} {S : Nat → Int32} {Z : Int64} (M : MdAt h0 h A S Z) (v : Int32) : ∃ h', xpf h 102 9 5 (.int v) = some h' ∧ MdAt h0 h' A (sup S 5 v) Z := by
  refine ⟨_, gP M.2.1 5 _ (Nat.le_of_ble_eq_true rfl), ?_⟩
  obtain ⟨e, -, e0, e1, e2, e3, e4, e5⟩ := M
  exact ⟨fun b hb => (xup_n _ _ (by omega)).trans (e b hb), xup_s _ _ _, e0, e1, e2, e3, e4, e5⟩
theorem MdAt.i6 {h0 h : XH} {A : Nat → Nat → Int32} {S : Nat → Int32} {Z : Int64} (M : MdAt h0 h A S Z) : xgI h 102 9 6 = some (S 6) := gI M.2.1 6 rfl
theorem MdAt.p6 {h0 h : XH} {A : Nat → Nat → Int32} {S : Nat → Int32} {Z : Int64} (M : MdAt h0 h A S Z) (v : Int32) : ∃ h', xpf h 102 9 6 (.int v) = some h' ∧ MdAt h0 h' A (sup S 6 v) Z := by
  refine ⟨_, gP M.2.1 6 _ (Nat.le_of_ble_eq_true rfl), ?_⟩
  obtain ⟨e, -, e0, e1, e2, e3, e4, e5⟩ := M
  exact ⟨fun b hb => (xup_n _ _ (by omega)).trans (e b hb), xup_s _ _ _, e0, e1, e2, e3, e4, e5⟩
theorem MdAt.i7 {h0 h : XH} {A : Nat → Nat → Int32} {S : Nat → Int32} {Z : Int64} (M : MdAt h0 h A S Z) : xgI h 102 9 7 = some (S 7) := gI M.2.1 7 rfl
theorem MdAt.p7 {h0 h : XH} {A : Nat → Nat → Int32} {S : Nat → Int32} {Z : Int64} (M : MdAt h0 h A S Z) (v : Int32) : ∃ h', xpf h 102 9 7 (.int v) = some h' ∧ MdAt h0 h' A (sup S 7 v) Z := by
  refine ⟨_, gP M.2.1 7 _ (Nat.le_of_ble_eq_true rfl), ?_⟩
  obtain ⟨e, -, e0, e1, e2, e3, e4, e5⟩ := M
  exact ⟨fun b hb => (xup_n _ _ (by omega)).trans (e b hb), xup_s _ _ _, e0, e1, e2, e3, e4, e5⟩
theorem MdAt.i8 {h0 h : XH} {A : Nat → Nat → Int32} {S : Nat → Int32} {Z : Int64} (M : MdAt h0 h A S Z) : xgI h 102 9 8 = some (S 8) := gI M.2.1 8 rfl
theorem MdAt.p8 {h0 h : XH} {A : Nat → Nat → Int32} {S : Nat → Int32} {Z : Int64} (M : MdAt h0 h A S Z) (v : Int32) : ∃ h', xpf h 102 9 8 (.int v) = some h' ∧ MdAt h0 h' A (sup S 8 v) Z := by
  refine ⟨_, gP M.2.1 8 _ (Nat.le_of_ble_eq_true rfl), ?_⟩
  obtain ⟨e, -, e0, e1, e2, e3, e4, e5⟩ := M
  exact ⟨fun b hb => (xup_n _ _ (by omega)).trans (e b hb), xup_s _ _ _, e0, e1, e2, e3, e4, e5⟩
theorem MdAt.i9 {h0 h : XH} {A : Nat → Nat → Int32} {S : Nat → Int32} {Z : Int64} (M : MdAt h0 h A S Z) : xgI h 102 9 9 = some (S 9) := gI M.2.1 9 rfl
theorem MdAt.p9 {h0 h : XH} {A : Nat → Nat → Int32} {S : Nat → Int32} {Z : Int64} (M : MdAt h0 h A S Z) (v : Int32) : ∃ h', xpf h 102 9 9 (.int v) = some h' ∧ MdAt h0 h' A (sup S 9 v) Z := by
  refine ⟨_, gP M.2.1 9 _ (Nat.le_of_ble_eq_true rfl), ?_⟩
  obtain ⟨e, -, e0, e1, e2, e3, e4, e5⟩ := M
  exact ⟨fun b hb => (xup_n _ _ (by omega)).trans (e b hb), xup_s _ _ _, e0, e1, e2, e3, e4, e5⟩
theorem MdAt.i12 {h0 h : XH} {A : Nat → Nat → Int32} {S : Nat → Int32} {Z : Int64} (M : MdAt h0 h A S Z) : xgI h 102 9 12 = some (S 12) := gI M.2.1 12 rfl
theorem MdAt.p12 {h0 h : XH} {A : Nat → Nat → Int32} {S : Nat → Int32} {Z : Int64} (M : MdAt h0 h A S Z) (v : Int32) : ∃ h', xpf h 102 9 12 (.int v) = some h' ∧ MdAt h0 h' A (sup S 12 v) Z := by
  refine ⟨_, gP M.2.1 12 _ (Nat.le_of_ble_eq_true rfl), ?_⟩
  obtain ⟨e, -, e0, e1, e2, e3, e4, e5⟩ := M
  exact ⟨fun b hb => (xup_n _ _ (by omega)).trans (e b hb), xup_s _ _ _, e0, e1, e2, e3, e4, e5⟩
theorem MdAt.i14 {h0 h : XH} {A : Nat → Nat → Int32} {S : Nat → Int32} {Z : Int64} (M : MdAt h0 h A S Z) : xgI h 102 9 14 = some (S 14) := gI M.2.1 14 rfl
theorem MdAt.p14 {h0 h : XH} {A : Nat → Nat → Int32} {S : Nat → Int32} {Z : Int64} (M : MdAt h0 h A S Z) (v : Int32) : ∃ h', xpf h 102 9 14 (.int v) = some h' ∧ MdAt h0 h' A (sup S 14 v) Z := by
  refine ⟨_, gP M.2.1 14 _ (Nat.le_of_ble_eq_true rfl), ?_⟩
  obtain ⟨e, -, e0, e1, e2, e3, e4, e5⟩ := M
  exact ⟨fun b hb => (xup_n _ _ (by omega)).trans (e b hb), xup_s _ _ _, e0, e1, e2, e3, e4, e5⟩
theorem MdAt.i15 {h0 h : XH} {A : Nat → Nat → Int32} {S : Nat → Int32} {Z : Int64} (M : MdAt h0 h A S Z) : xgI h 102 9 15 = some (S 15) := gI M.2.1 15 rfl
theorem MdAt.p15 {h0 h : XH} {A : Nat → Nat → Int32} {S : Nat → Int32} {Z : Int64} (M : MdAt h0 h A S Z) (v : Int32) : ∃ h', xpf h 102 9 15 (.int v) = some h' ∧ MdAt h0 h' A (sup S 15 v) Z := by
  refine ⟨_, gP M.2.1 15 _ (Nat.le_of_ble_eq_true rfl), ?_⟩
  obtain ⟨e, -, e0, e1, e2, e3, e4, e5⟩ := M
  exact ⟨fun b hb => (xup_n _ _ (by omega)).trans (e b hb), xup_s _ _ _, e0, e1, e2, e3, e4, e5⟩
theorem MdAt.j16 {h0 h : XH} {A : Nat → Nat → Int32} {S : Nat → Int32} {Z : Int64} (M : MdAt h0 h A S Z) : xgJ h 102 9 16 = some Z := gJ M.2.1 16 rfl
theorem MdAt.p16 {h0 h : XH} {A : Nat → Nat → Int32} {S : Nat → Int32} {Z : Int64} (M : MdAt h0 h A S Z) (v : Int64) : ∃ h', xpf h 102 9 16 (.long v) = some h' ∧ MdAt h0 h' A S v := by
  refine ⟨_, gP M.2.1 16 _ (Nat.le_of_ble_eq_true rfl), ?_⟩
  obtain ⟨e, -, e0, e1, e2, e3, e4, e5⟩ := M
  exact ⟨fun b hb => (xup_n _ _ (by omega)).trans (e b hb), xup_s _ _ _, e0, e1, e2, e3, e4, e5⟩
theorem MdAt.a0 {h0 h : XH} {A : Nat → Nat → Int32} {S : Nat → Int32} {Z : Int64} (M : MdAt h0 h A S Z) {i : Int} (hi : 0 ≤ i ∧ i < 980) : xaI h 103 0 (i32 i) = some (A 0 i.toNat) := gA M.2.2.1 (by omega) (by omega)
theorem MdAt.s0 {h0 h : XH} {A : Nat → Nat → Int32} {S : Nat → Int32} {Z : Int64} (M : MdAt h0 h A S Z) {i : Int} (v : Int32) (hi : 0 ≤ i ∧ i < 980) : ∃ h', xsI h 103 0 (i32 i) v = some h' ∧ MdAt h0 h' (aup A 0 (upd (A 0) i.toNat v)) S Z := by
  refine ⟨_, gS M.2.2.1 v (by omega) (by omega), ?_⟩
  obtain ⟨e, em, -, e1, e2, e3, e4, e5⟩ := M
  exact ⟨fun b hb => (xup_n _ _ (by omega)).trans (e b hb), em, xup_s _ _ _, e1, e2, e3, e4, e5⟩
theorem MdAt.a1 {h0 h : XH} {A : Nat → Nat → Int32} {S : Nat → Int32} {Z : Int64} (M : MdAt h0 h A S Z) {i : Int} (hi : 0 ≤ i ∧ i < 1001) : xaI h 104 0 (i32 i) = some (A 1 i.toNat) := gA M.2.2.2.1 (by omega) (by omega)
theorem MdAt.s1 {h0 h : XH} {A : Nat → Nat → Int32} {S : Nat → Int32} {Z : Int64} (M : MdAt h0 h A S Z) {i : Int} (v : Int32) (hi : 0 ≤ i ∧ i < 1001) : ∃ h', xsI h 104 0 (i32 i) v = some h' ∧ MdAt h0 h' (aup A 1 (upd (A 1) i.toNat v)) S Z := by
  refine ⟨_, gS M.2.2.2.1 v (by omega) (by omega), ?_⟩
  obtain ⟨e, em, e0, -, e2, e3, e4, e5⟩ := M
  exact ⟨fun b hb => (xup_n _ _ (by omega)).trans (e b hb), em, e0, xup_s _ _ _, e2, e3, e4, e5⟩
theorem MdAt.a2 {h0 h : XH} {A : Nat → Nat → Int32} {S : Nat → Int32} {Z : Int64} (M : MdAt h0 h A S Z) {i : Int} (hi : 0 ≤ i ∧ i < 80) : xaI h 105 0 (i32 i) = some (A 2 i.toNat) := gA M.2.2.2.2.1 (by omega) (by omega)
theorem MdAt.s2 {h0 h : XH} {A : Nat → Nat → Int32} {S : Nat → Int32} {Z : Int64} (M : MdAt h0 h A S Z) {i : Int} (v : Int32) (hi : 0 ≤ i ∧ i < 80) : ∃ h', xsI h 105 0 (i32 i) v = some h' ∧ MdAt h0 h' (aup A 2 (upd (A 2) i.toNat v)) S Z := by
  refine ⟨_, gS M.2.2.2.2.1 v (by omega) (by omega), ?_⟩
  obtain ⟨e, em, e0, e1, -, e3, e4, e5⟩ := M
  exact ⟨fun b hb => (xup_n _ _ (by omega)).trans (e b hb), em, e0, e1, xup_s _ _ _, e3, e4, e5⟩
theorem MdAt.a3 {h0 h : XH} {A : Nat → Nat → Int32} {S : Nat → Int32} {Z : Int64} (M : MdAt h0 h A S Z) {i : Int} (hi : 0 ≤ i ∧ i < 60) : xaI h 106 1 (i32 i) = some (A 3 i.toNat) := gA M.2.2.2.2.2.1 (by omega) (by omega)
theorem MdAt.s3 {h0 h : XH} {A : Nat → Nat → Int32} {S : Nat → Int32} {Z : Int64} (M : MdAt h0 h A S Z) {i : Int} (v : Int32) (hi : 0 ≤ i ∧ i < 60) : ∃ h', xsI h 106 1 (i32 i) v = some h' ∧ MdAt h0 h' (aup A 3 (upd (A 3) i.toNat v)) S Z := by
  refine ⟨_, gS M.2.2.2.2.2.1 v (by omega) (by omega), ?_⟩
  obtain ⟨e, em, e0, e1, e2, -, e4, e5⟩ := M
  exact ⟨fun b hb => (xup_n _ _ (by omega)).trans (e b hb), em, e0, e1, e2, xup_s _ _ _, e4, e5⟩
theorem MdAt.a4 {h0 h : XH} {A : Nat → Nat → Int32} {S : Nat → Int32} {Z : Int64} (M : MdAt h0 h A S Z) {i : Int} (hi : 0 ≤ i ∧ i < 2001) : xaI h 107 0 (i32 i) = some (A 4 i.toNat) := gA M.2.2.2.2.2.2.1 (by omega) (by omega)
theorem MdAt.s4 {h0 h : XH} {A : Nat → Nat → Int32} {S : Nat → Int32} {Z : Int64} (M : MdAt h0 h A S Z) {i : Int} (v : Int32) (hi : 0 ≤ i ∧ i < 2001) : ∃ h', xsI h 107 0 (i32 i) v = some h' ∧ MdAt h0 h' (aup A 4 (upd (A 4) i.toNat v)) S Z := by
  refine ⟨_, gS M.2.2.2.2.2.2.1 v (by omega) (by omega), ?_⟩
  obtain ⟨e, em, e0, e1, e2, e3, -, e5⟩ := M
  exact ⟨fun b hb => (xup_n _ _ (by omega)).trans (e b hb), em, e0, e1, e2, e3, xup_s _ _ _, e5⟩
theorem MdAt.a5 {h0 h : XH} {A : Nat → Nat → Int32} {S : Nat → Int32} {Z : Int64} (M : MdAt h0 h A S Z) {i : Int} (hi : 0 ≤ i ∧ i < 60) : xaI h 108 0 (i32 i) = some (A 5 i.toNat) := gA M.2.2.2.2.2.2.2 (by omega) (by omega)
theorem MdAt.s5 {h0 h : XH} {A : Nat → Nat → Int32} {S : Nat → Int32} {Z : Int64} (M : MdAt h0 h A S Z) {i : Int} (v : Int32) (hi : 0 ≤ i ∧ i < 60) : ∃ h', xsI h 108 0 (i32 i) v = some h' ∧ MdAt h0 h' (aup A 5 (upd (A 5) i.toNat v)) S Z := by
  refine ⟨_, gS M.2.2.2.2.2.2.2 v (by omega) (by omega), ?_⟩
  obtain ⟨e, em, e0, e1, e2, e3, e4, -⟩ := M
  exact ⟨fun b hb => (xup_n _ _ (by omega)).trans (e b hb), em, e0, e1, e2, e3, e4, xup_s _ _ _⟩
def PgAt (A : Nat → Nat → Int32) (p : Nat → Int) : Prop := ∀ k : Nat, k < 98 → A 0 k = i32 (p k)
theorem MdAt.pg {h0 h : XH} {A : Nat → Nat → Int32} {S : Nat → Int32} {Z : Int64} (M : MdAt h0 h A S Z) {p : Nat → Int} (G : PgAt A p) {i : Int} (hi : 0 ≤ i ∧ i < 98) : xaI h 103 0 (i32 i) = some (i32 (p i.toNat)) := by
  rw [M.a0 (by omega), G _ (by omega)]
theorem cells_ok {h0 h : XH} {A : Nat → Nat → Int32} {S : Nat → Int32} {Z : Int64} (M : MdAt h0 h A S Z) {p : Nat → Int} (G : PgAt A p) : fX9_cells h 102 = some (i32 (p 0)) := by
  unfold fX9_cells
  rw [M.r0]
  simp only [Option.bind_some]
  rw [L_0, M.pg G (by omega)]
  rfl
/-! the model's measure -/
def eqs (n : Nat) (f : Nat → Int) (s : Nat) : Nat → Bool
  | 0 => true
  | i + 1 => eqs n f s i && decide (f i = f ((i + s) % n))
theorem eqs_iff {n : Nat} {f : Nat → Int} {s : Nat} : ∀ k, eqs n f s k = true ↔ ∀ i, i < k → f i = f ((i + s) % n)
  | 0 => by simp [eqs]
  | k + 1 => by
    simp only [eqs, Bool.and_eq_true, decide_eq_true_eq, eqs_iff k]
    constructor
    · rintro ⟨h1, h2⟩ i hi
      rcases Nat.lt_or_ge i k with q | q
      · exact h1 i q
      · obtain rfl : i = k := by omega
        exact h2
    · intro h
      exact ⟨fun i hi => h i (by omega), h k (by omega)⟩
theorem mmsr_in {h0 h : XH} {A : Nat → Nat → Int32} {S : Nat → Int32} {Z : Int64} (M : MdAt h0 h A S Z) {p : Nat → Int} (G : PgAt A p) (hV : VP p) {s : Nat} (hs : 1 ≤ s ∧ s ≤ 60) : xloop (fX9_measure_B15 h 102 (i32 s)) 5000 (true, i32 0) = some (eqs (p 0).toNat (fun i => p (1 + i)) s (p 0).toNat) := by
  have hn := hV.n
  have e := xl_run (fX9_measure_B15 h 102 (i32 s)) (fun i => (eqs (p 0).toNat (fun i => p (1 + i)) s i, i32 i)) (p 0).toNat (eqs (p 0).toNat (fun i => p (1 + i)) s (p 0).toNat) (fun i hi => by
    unfold fX9_measure_B15 fX9_measure_b15 fX9_measure_J57
    rw [M.c]
    simp only [Option.bind_some]
    rw [cells_ok M G]
    simp only [Option.bind_some]
    rw [ile_f (by omega), M.r0]
    simp only [Option.bind_some, eqs]
    simp only [L_1, i32_add]
    cases hq : eqs (p 0).toNat (fun i => p (1 + i)) s i with
    | false =>
      simp only [Bool.false_and]
      rw [if_neg Bool.false_ne_true]
      rfl
    | true =>
      rw [if_pos rfl, M.pg G (by omega)]
      simp only [Option.bind_some]
      have em : ((i : Int) + (s : Int)).tmod (p 0) = (((i + s) % (p 0).toNat : Nat) : Int) := by
        rw [Int.tmod_eq_emod_of_nonneg (by omega)]
        have e : p 0 = ((p 0).toNat : Int) := by omega
        rw [e]
        simp
      have hlt := Nat.mod_lt (i + s) (show 0 < (p 0).toNat by omega)
      rw [L_0, ieq_f (by omega), i32_rem (by omega) (by omega), em, i32_add, M.pg G (by omega)]
      simp only [Option.bind_some, Bool.true_and]
      rw [show ((1 : Int) + (i : Int)).toNat = 1 + i by omega, show ((1 : Int) + (((i + s) % (p 0).toNat : Nat) : Int)).toNat = 1 + (i + s) % (p 0).toNat by omega]
      have m1 := hV.mk i (by omega)
      have m2 := hV.mk ((i + s) % (p 0).toNat) (by omega)
      rw [ceq (by omega)]
      split
      · rename_i z
        rw [decide_eq_true z]
        rfl
      · rename_i z
        rw [decide_eq_false z]
        rfl) (by
    unfold fX9_measure_B15 fX9_measure_b15
    rw [M.c]
    simp only [Option.bind_some]
    rw [cells_ok M G]
    simp only [Option.bind_some]
    rw [ile_t (by omega)]) 5000 (by omega)
  exact e
theorem mmsr_ok {h0 h : XH} {A : Nat → Nat → Int32} {S : Nat → Int32} {Z : Int64} (M : MdAt h0 h A S Z) {p : Nat → Int} (G : PgAt A p) (hV : VP p) : fX9_measure h 102 = some (i32 (msr p)) := by
  unfold fX9_measure
  have hn := hV.n
  have hr := msr_rng hV
  obtain ⟨m1, m2, m3, m4⟩ := msr_ok hV
  have e := xl_run (fX9_measure_B4 h 102) (fun i => (i32 i, if i = 0 then false else eqs (p 0).toNat (fun i => p (1 + i)) i (p 0).toNat)) (msr p) (i32 (msr p)) (fun i hi => by
    unfold fX9_measure_B4 fX9_measure_b4
    have hf : (if i = 0 then false else eqs (p 0).toNat (fun i => p (1 + i)) i (p 0).toNat) = false := by
      split
      · rfl
      · rcases hq : eqs (p 0).toNat (fun i => p (1 + i)) i (p 0).toNat with _ | _
        · rfl
        · exact absurd ((eqs_iff _).mp hq) (m4 i (by omega) hi)
    simp only [hf]
    rw [if_neg (by decide), L_1, i32_add, L_0]
    have q := mmsr_in M G hV (s := i + 1) (by omega)
    rw [show ((i : Int) + 1) = ((i + 1 : Nat) : Int) by omega, q]
    simp only [Option.bind_some]
    rw [if_neg (by omega)]) (by
    unfold fX9_measure_B4 fX9_measure_b4
    have ht : eqs (p 0).toNat (fun i => p (1 + i)) (msr p) (p 0).toNat = true := (eqs_iff _).mpr m3
    have hf : (if msr p = 0 then false else eqs (p 0).toNat (fun i => p (1 + i)) (msr p) (p 0).toNat) = true := by rw [if_neg (by omega)]; exact ht
    simp only [hf]
    exact if_pos trivial) 5000 (by omega)
  rw [L_0]
  have e2 : xloop (fX9_measure_B4 h 102) 5000 (i32 0, false) = some (i32 (msr p)) := e
  rw [e2]
  rfl
end
section
/-! the turn -/
def spk (p : Nat → Int) (t : Nat) : Nat → Int
  | 0 => p 62
  | k + 1 => if p (64 + 2 * k) ≤ t then p (65 + 2 * k) else spk p t k
def spd (p : Nat → Int) (t : Nat) : Int := spk p t (p 63).toNat
def trn (p : Nat → Int) : Nat → Int
  | 0 => p 61
  | t + 1 => trn p t + spd p t
def cur (p : Nat → Int) (k : Nat) : Int := if k = 0 then p 62 else p (65 + 2 * (k - 1))
def tkt (p : Nat → Int) (k : Nat) : Nat := if k = 0 then 0 else (p (64 + 2 * (k - 1))).toNat
theorem spk_rng {p : Nat → Int} (hV : VP p) (t : Nat) : ∀ k : Nat, (k : Int) ≤ p 63 → -1000 ≤ spk p t k ∧ spk p t k ≤ 1000
  | 0, _ => hV.speed
  | k + 1, h => by
    have h1 := spk_rng hV t k (by omega)
    have h2 := (hV.cht k (by omega)).2
    simp only [spk]
    split <;> omega
theorem spd_rng {p : Nat → Int} (hV : VP p) (t : Nat) : -1000 ≤ spd p t ∧ spd p t ≤ 1000 := spk_rng hV t _ (by have := hV.ch; omega)
theorem trn_rng {p : Nat → Int} (hV : VP p) : ∀ t : Nat, -(1000 * (t : Int)) ≤ trn p t ∧ trn p t ≤ 59 + 1000 * (t : Int)
  | 0 => by have := hV.start; simp only [trn]; omega
  | t + 1 => by have := trn_rng hV t; have := spd_rng hV t; simp only [trn]; omega
theorem spk_skip {p : Nat → Int} {t k : Nat} : ∀ m, k ≤ m → (∀ j, k ≤ j → j < m → (t : Int) < p (64 + 2 * j)) → spk p t m = spk p t k
  | 0, h, _ => by have : k = 0 := by omega
                  rw [this]
  | m + 1, h, hj => by
    rcases Nat.lt_or_ge k (m + 1) with q | q
    · simp only [spk]
      rw [if_neg (by have := hj m (by omega) (by omega); omega)]
      exact spk_skip m (by omega) (fun j a b => hj j a (by omega))
    · have : k = m + 1 := by omega
      rw [this]
theorem spd_cur {p : Nat → Int} {t k : Nat} (hk : (k : Int) ≤ p 63) (h1 : k = 0 ∨ p (64 + 2 * (k - 1)) ≤ t) (h2 : ∀ j : Nat, k ≤ j → (j : Int) < p 63 → (t : Int) < p (64 + 2 * j)) : spd p t = cur p k := by
  unfold spd
  rw [spk_skip (k := k) _ (by omega) (fun j a b => h2 j a (by omega))]
  unfold cur
  rcases k with _ | k
  · rfl
  · rw [if_neg (by omega)]
    simp only [spk]
    rw [if_pos (by rcases h1 with q | q; omega; exact q)]
    rfl
theorem trn_seg {p : Nat → Int} {v : Int} {a : Nat} : ∀ d : Nat, (∀ u, a ≤ u → u < a + d → spd p u = v) → trn p (a + d) = trn p a + v * d
  | 0, _ => by simp
  | d + 1, h => by
    have := trn_seg d (fun u a b => h u a (by omega))
    show trn p (a + d) + spd p (a + d) = _
    rw [this, h (a + d) (by omega) (by omega)]
    rw [show ((d + 1 : Nat) : Int) = (d : Int) + 1 by omega, Int.mul_add]
    omega
theorem tkt_succ (p : Nat → Int) (k : Nat) : tkt p (k + 1) = (p (64 + 2 * k)).toNat := by simp [tkt]
theorem cur_succ (p : Nat → Int) (k : Nat) : cur p (k + 1) = p (65 + 2 * k) := by simp [cur]
/-- between two changes: the turn goes on with the speed that holds -/
theorem trn_cur {p : Nat → Int} (hV : VP p) {k t : Nat} (hk : (k : Int) ≤ p 63) (h1 : tkt p k ≤ t) (h2 : ∀ j : Nat, k ≤ j → (j : Int) < p 63 → (t : Int) ≤ p (64 + 2 * j)) : trn p t = trn p (tkt p k) + cur p k * ((t : Int) - tkt p k) := by
  have e : t = tkt p k + (t - tkt p k) := by omega
  have h := trn_seg (p := p) (v := cur p k) (a := tkt p k) (t - tkt p k) (fun u a b => by
    refine spd_cur hk ?_ (fun j c d => by have := h2 j c d; omega)
    rcases k with _ | k
    · exact Or.inl rfl
    · right
      rw [tkt_succ] at a
      show p (64 + 2 * k) ≤ u
      have := (hV.cht k (by omega)).1
      omega)
  rw [← e] at h
  rw [h]
  congr 2
  omega
theorem cturn_ok {h : XH} {w : Nat} {p : Nat → Int} (H : WhAt h w p) (hV : VP p) {t : Nat} (ht : t ≤ 1000) : fX6_turnAt h w (i32 t) = some (i32 (trn p t)) := by
  have hc := hV.ch
  obtain ⟨k, hk, hmin⟩ := pk_least (fun k => (p 63).toNat ≤ k ∨ (t : Int) ≤ p (64 + 2 * k)) ⟨_, Or.inl (Nat.le_refl _)⟩
  have hlt : ∀ i, i < k → (i : Int) < p 63 ∧ p (64 + 2 * i) < t := fun i hi => by
    have := hmin i hi
    omega
  have hkc : (k : Int) ≤ p 63 := by
    rcases k with _ | k
    · omega
    · have := (hlt k (by omega)).1
      omega
  have step : ∀ i, i < k → fX6_turnAt_B16 h w (i32 t) (i32 (trn p (tkt p i)), i32 (tkt p i), i32 (cur p i), i32 i) = some (.inl (i32 (trn p (tkt p (i + 1))), i32 (tkt p (i + 1)), i32 (cur p (i + 1)), i32 (i + 1 : Nat))) := by
    intro i hi
    obtain ⟨h1, h2⟩ := hlt i hi
    have ct := hV.cht i h1
    unfold fX6_turnAt_B16 fX6_turnAt_b16
    rw [H.i6]
    simp only [Option.bind_some]
    rw [ile_f (by omega), H.r1]
    simp only [Option.bind_some]
    rw [H.ctk hV (by omega)]
    simp only [Option.bind_some]
    rw [Int.toNat_natCast, ile_f (by omega), H.r2]
    simp only [Option.bind_some]
    rw [H.csp hV (by omega)]
    simp only [Option.bind_some, L_1, i32_add, i32_sub, i32_mul]
    rw [Int.toNat_natCast, tkt_succ, cur_succ]
    have e := trn_cur hV (k := i) (t := (p (64 + 2 * i)).toNat) (by omega) (by
      rcases i with _ | i
      · simp [tkt]
      · rw [tkt_succ]
        have := hV.srt i (i + 1) (by omega) (by omega)
        omega) (fun j a b => by
      rcases Nat.lt_or_ge i j with q | q
      · have := hV.srt i j q b
        omega
      · obtain rfl : i = j := by omega
        omega)
    rw [e]
    have e2 : (((p (64 + 2 * i)).toNat : Nat) : Int) = p (64 + 2 * i) := by omega
    rw [e2]
    rfl
  have hf := xl_run (fX6_turnAt_B16 h w (i32 t)) (fun i => (i32 (trn p (tkt p i)), i32 (tkt p i), i32 (cur p i), i32 i)) k (i32 (trn p (tkt p k)), i32 (tkt p k), i32 (cur p k)) step (by
    unfold fX6_turnAt_B16 fX6_turnAt_b16
    rw [H.i6]
    simp only [Option.bind_some]
    rcases Int.lt_or_le (k : Int) (p 63) with q | q
    · rw [ile_f (by omega), H.r1]
      simp only [Option.bind_some]
      rw [H.ctk hV (by omega)]
      simp only [Option.bind_some]
      have ct := hV.cht k q
      rw [Int.toNat_natCast, ile_t (by omega)]
    · rw [ile_t (by omega)]) 5000 (by omega)
  unfold fX6_turnAt
  rw [H.i4]
  simp only [Option.bind_some]
  rw [H.i5]
  simp only [Option.bind_some, L_0]
  have hf2 : xloop (fX6_turnAt_B16 h w (i32 t)) 5000 (i32 (p 61), i32 0, i32 (p 62), i32 0) = some (i32 (trn p (tkt p k)), i32 (tkt p k), i32 (cur p k)) := hf
  rw [hf2]
  simp only [Option.bind_some, i32_add, i32_sub, i32_mul]
  rw [← trn_cur hV hkc]
  · rcases k with _ | k
    · simp [tkt]
    · rw [tkt_succ]
      have := (hlt k (by omega)).2
      omega
  · intro j a b
    have hk2 : (k : Int) < p 63 := by omega
    have h3 : (t : Int) ≤ p (64 + 2 * k) := by omega
    rcases Nat.lt_or_ge k j with q | q
    · have := hV.srt k j q b
      omega
    · obtain rfl : k = j := by omega
      exact h3
/-! the model's turns -/
theorem aup_aup (A : Nat → Nat → Int32) (k : Nat) (f g : Nat → Int32) : aup (aup A k f) k g = aup A k g := by
  funext j
  by_cases q : j = k <;> simp [aup, q]
theorem PgAt.up {A : Nat → Nat → Int32} {p : Nat → Int} (G : PgAt A p) {k : Nat} (f : Nat → Int32) (hk : k ≠ 0) : PgAt (aup A k f) p := fun i hi => by rw [aup_n _ _ (Ne.symm hk)]; exact G i hi
theorem tickOf_ok {h0 h : XH} {A : Nat → Nat → Int32} {S : Nat → Int32} {Z : Int64} (M : MdAt h0 h A S Z) {p : Nat → Int} (G : PgAt A p) {k : Nat} (hk : k < 5) : fX9_tickOf h 102 (i32 k) = some (i32 (p (64 + 2 * k))) := by
  unfold fX9_tickOf
  rw [M.r0]
  simp only [Option.bind_some, L_64, L_2, i32_add, i32_mul]
  rw [M.pg G (by omega)]
  rw [show ((64 : Int) + 2 * (k : Int)).toNat = 64 + 2 * k by omega]
  rfl
def TnAt (A : Nat → Nat → Int32) (p : Nat → Int) (t : Nat) : Prop := ∀ j, j ≤ t → A 1 j = i32 (trn p j % p 0)
theorem lays_ok {h0 h : XH} {A : Nat → Nat → Int32} {S : Nat → Int32} {Z : Int64} (M : MdAt h0 h A S Z) {p : Nat → Int} (G : PgAt A p) (hV : VP p) : ∃ h' f, fX9_laysTurns h 102 = some h' ∧ MdAt h0 h' (aup A 1 f) (sup S 3 (i32 (msr p))) Z ∧ TnAt (aup A 1 f) p 1000 := by
  have hn := hV.n
  have hc := hV.ch
  have hs := hV.start
  unfold fX9_laysTurns
  rw [M.r0]
  simp only [Option.bind_some, L_62]
  rw [M.pg G (by omega), M.c]
  simp only [Option.bind_some]
  rw [mmsr_ok M G hV]
  simp only [Option.bind_some]
  obtain ⟨h1, e1, M1⟩ := M.p3 (i32 (msr p))
  rw [e1]
  simp only [Option.bind_some]
  rw [M1.r2, M1.r0]
  simp only [Option.bind_some, L_61]
  rw [M1.pg G (by omega), M1.c]
  simp only [Option.bind_some]
  rw [cells_ok M1 G]
  simp only [Option.bind_some]
  rw [modulo_ok (by show _ ∧ _; simp only [Int.reduceToNat]; omega) (by omega)]
  simp only [Option.bind_some, L_0]
  obtain ⟨h2, e2, M2⟩ := M1.s1 (i := 0) (i32 (p 61 % p 0)) (by omega)
  simp only [Int.reduceToNat] at e2 M2 ⊢
  rw [e2]
  simp only [Option.bind_some]
  obtain ⟨e, e3, h3, f, he, M3, T3⟩ := xl_inv (fX9_laysTurns_B40 102) (fun t s => ∃ (h' : XH) (f : Nat → Int32) (k : Nat), s = (h', i32 k, i32 (cur p k), i32 t) ∧ MdAt h0 h' (aup A 1 f) (sup S 3 (i32 (msr p))) Z ∧ TnAt (aup A 1 f) p t ∧ (k : Int) ≤ p 63 ∧ (∀ j : Nat, j < k → p (64 + 2 * j) < t) ∧ (∀ j : Nat, k ≤ j → (j : Int) < p 63 → (t : Int) ≤ p (64 + 2 * j))) 1000 (fun e => ∃ (h' : XH) (f : Nat → Int32), e = h' ∧ MdAt h0 h' (aup A 1 f) (sup S 3 (i32 (msr p))) Z ∧ TnAt (aup A 1 f) p 1000) (by
    rintro t s ht ⟨h', f, k, rfl, M', T', q1, q2, q3⟩
    have G' := G.up f (k := 1) (by omega)
    -- the step itself, once speed and place are known
    have body : ∀ k' : Nat, (k' : Int) ≤ p 63 → (∀ j : Nat, j < k' → p (64 + 2 * j) ≤ t) → (∀ j : Nat, k' ≤ j → (j : Int) < p 63 → (t : Int) < p (64 + 2 * j)) → ∃ s', fX9_laysTurns_J84 h' 102 (i32 k') (i32 (cur p k')) (i32 t) = some (.inl s') ∧ ∃ (h'' : XH) (f : Nat → Int32) (k : Nat), s' = (h'', i32 k, i32 (cur p k), i32 (t + 1 : Nat)) ∧ MdAt h0 h'' (aup A 1 f) (sup S 3 (i32 (msr p))) Z ∧ TnAt (aup A 1 f) p (t + 1) ∧ (k : Int) ≤ p 63 ∧ (∀ j : Nat, j < k → p (64 + 2 * j) < (t + 1 : Nat)) ∧ (∀ j : Nat, k ≤ j → (j : Int) < p 63 → ((t + 1 : Nat) : Int) ≤ p (64 + 2 * j)) := by
      intro k' a1 a2 a3
      have hsp : spd p t = cur p k' := spd_cur a1 (by
        rcases k' with _ | k'
        · exact Or.inl rfl
        · exact Or.inr (a2 k' (by omega))) a3
      have hr := spd_rng hV t
      have hm := Int.emod_nonneg (trn p t) (show p 0 ≠ 0 by omega)
      have hm2 := Int.emod_lt_of_pos (trn p t) (show 0 < p 0 by omega)
      unfold fX9_laysTurns_J84
      rw [M'.r2]
      simp only [Option.bind_some]
      rw [M'.a1 (by omega), M'.c]
      simp only [Option.bind_some]
      rw [cells_ok M' G', Int.toNat_natCast, T' t (Nat.le_refl _)]
      simp only [Option.bind_some, i32_add, L_1]
      rw [modulo_ok (by omega) (by omega)]
      simp only [Option.bind_some]
      obtain ⟨h'', e'', M''⟩ := M'.s1 (i := (t : Int) + 1) (i32 ((trn p t % p 0 + cur p k') % p 0)) (by omega)
      rw [e'']
      refine ⟨_, rfl, h'', _, k', rfl, by rw [aup_s, aup_aup] at M''; exact M'', ?_, a1, fun j hj => by have := a2 j hj; omega, fun j hj hj2 => by have := a3 j hj hj2; omega⟩
      intro j hj
      rw [aup_s]
      unfold upd
      split
      · rename_i z
        have z : j = t + 1 := by omega
        subst z
        congr 1
        show _ = (trn p t + spd p t) % p 0
        rw [hsp, Int.emod_add_emod]
      · have z : j ≤ t := by omega
        have := T' j z
        rw [aup_s] at this
        exact this
    unfold fX9_laysTurns_B40 fX9_laysTurns_b40
    simp only [L_1000]
    rw [ile_f (by omega), M'.r0]
    simp only [Option.bind_some, L_63]
    rw [M'.pg G' (by omega)]
    simp only [Option.bind_some, Int.reduceToNat]
    rcases Int.lt_or_le (k : Int) (p 63) with z | z
    · rw [ile_f (by omega), M'.c]
      simp only [Option.bind_some]
      rw [tickOf_ok M' G' (by omega)]
      simp only [Option.bind_some]
      have ct := hV.cht k z
      rcases Classical.em (p (64 + 2 * k) = t) with z2 | z2
      · rw [ieq_t z2]
        simp only [L_64, L_2, L_1, i32_mul, i32_add]
        rw [M'.pg G' (by omega)]
        simp only [Option.bind_some]
        rw [show ((64 : Int) + 2 * (k : Int) + 1).toNat = 65 + 2 * k by omega, ← cur_succ p k]
        exact body (k + 1) (by omega) (fun j hj => by
          rcases Nat.lt_or_ge j k with y | y
          · have := q2 j y; omega
          · obtain rfl : j = k := by omega
            omega) (fun j hj hj2 => by have := hV.srt k j (by omega) hj2; omega)
      · rw [ieq_f (by omega)]
        exact body k q1 (fun j hj => by have := q2 j hj; omega) (fun j hj hj2 => by
          rcases Nat.lt_or_ge k j with y | y
          · have := hV.srt k j y hj2
            have := q3 k (Nat.le_refl _) z
            omega
          · obtain rfl : k = j := by omega
            have := q3 k hj z
            omega)
    · rw [ile_t (by omega)]
      exact body k q1 (fun j hj => by have := q2 j hj; omega) (fun j hj hj2 => by omega)) (by
    rintro s ⟨h', f, k, rfl, M', T', -⟩
    refine ⟨h', ?_, h', f, rfl, M', T'⟩
    unfold fX9_laysTurns_B40 fX9_laysTurns_b40
    simp only [L_1000]
    exact ile_t (by omega)) (h2, i32 0, i32 (p 62), i32 0) ⟨h2, _, 0, rfl, M2, (by
      intro j hj
      have z : j = 0 := by omega
      subst z
      rw [aup_s]
      simp [upd, trn]), by omega, fun j hj => by omega, fun j hj hj2 => by have := (hV.cht j hj2).1; omega⟩ 5000 (by omega)
  subst he
  have e4 : xloop (fX9_laysTurns_B40 102) 5000 (h2, i32 0, i32 (p 62), i32 0) = some e := e3
  rw [e4]
  exact ⟨e, f, rfl, M3, T3⟩
end
section
/-! what a reading call of the model leaves: page, text, back, typed, fault, and the hash -/
def Kp (A A' : Nat → Nat → Int32) (S S' : Nat → Int32) : Prop := A' 0 = A 0 ∧ A' 2 = A 2 ∧ S' 1 = S 1 ∧ S' 5 = S 5 ∧ S' 6 = S 6
theorem Kp.rf (A : Nat → Nat → Int32) (S : Nat → Int32) : Kp A A S S := ⟨rfl, rfl, rfl, rfl, rfl⟩
theorem Kp.tr {A B C : Nat → Nat → Int32} {S T U : Nat → Int32} (h : Kp A B S T) (k : Kp B C T U) : Kp A C S U := ⟨k.1.trans h.1, k.2.1.trans h.2.1, k.2.2.1.trans h.2.2.1, k.2.2.2.1.trans h.2.2.2.1, k.2.2.2.2.trans h.2.2.2.2⟩
theorem Kp.a {A B : Nat → Nat → Int32} {S T : Nat → Int32} (h : Kp A B S T) (k : Nat) (f : Nat → Int32) (hk : k ≠ 0 ∧ k ≠ 2) : Kp A (aup B k f) S T := ⟨by rw [aup_n _ _ (Ne.symm hk.1)]; exact h.1, by rw [aup_n _ _ (Ne.symm hk.2)]; exact h.2.1, h.2.2⟩
theorem Kp.s {A B : Nat → Nat → Int32} {S T : Nat → Int32} (h : Kp A B S T) (k : Nat) (v : Int32) (hk : k ≠ 1 ∧ k ≠ 5 ∧ k ≠ 6) : Kp A B S (sup T k v) := ⟨h.1, h.2.1, by rw [sup_n _ _ (Ne.symm hk.1)]; exact h.2.2.1, by rw [sup_n _ _ (Ne.symm hk.2.1)]; exact h.2.2.2.1, by rw [sup_n _ _ (Ne.symm hk.2.2)]; exact h.2.2.2.2⟩
theorem PgAt.kp {A A' : Nat → Nat → Int32} {S S' : Nat → Int32} {p : Nat → Int} (G : PgAt A p) (K : Kp A A' S S') : PgAt A' p := fun k hk => by rw [K.1]; exact G k hk
def MOp (h0 : XH) (A : Nat → Nat → Int32) (S : Nat → Int32) (Z : Int64) (r : Int) (res : Option (Int32 × XH)) : Prop := ∃ h' A' S', res = some (i32 r, h') ∧ MdAt h0 h' A' S' Z ∧ Kp A A' S S'
def LdAt (A : Nat → Nat → Int32) (S : Nat → Int32) (p : Nat → Int) : Prop := TnAt A p 1000 ∧ S 3 = i32 (msr p)
/-- turns laid, and nothing else that counts -/
theorem lays_op {h0 h : XH} {A : Nat → Nat → Int32} {S : Nat → Int32} {Z : Int64} (M : MdAt h0 h A S Z) {p : Nat → Int} (G : PgAt A p) (hV : VP p) : ∃ h' A' S', fX9_laysTurns h 102 = some h' ∧ MdAt h0 h' A' S' Z ∧ Kp A A' S S' ∧ LdAt A' S' p := by
  obtain ⟨h', f, e, M', T⟩ := lays_ok M G hV
  exact ⟨h', _, _, e, M', ((Kp.rf A S).a 1 f (by omega)).s 3 _ (by omega), T, sup_s _ _ _⟩
theorem i32_div {a b : Int} (ha : -2147483648 < a ∧ a < 2147483648) (hb : -2147483648 ≤ b ∧ b < 2147483648) : i32 a / i32 b = i32 (a.tdiv b) := by
  apply Int32.toInt_inj.mp
  rw [Int32.toInt_div, i32_toInt (by omega), i32_toInt hb]
  have h1 : (a.tdiv b).natAbs ≤ a.natAbs := by
    rw [Int.natAbs_tdiv]; exact Nat.div_le_self _ _
  rw [i32_toInt (by omega), Int.bmod_eq_of_le] <;> (simp; omega)
def NowAt (h : XH) (p : Nat → Int) : Prop := h 0 = some (.inl (8, [.ref 1, .ref 11, .ref 93, .ref 95, .ref 99])) ∧ StAt h 1 p
theorem NowAt.c {h : XH} {p : Nat → Int} (H : NowAt h p) : xco h 0 8 = some () := gC H.1
theorem NowAt.n {h : XH} {p : Nat → Int} (H : NowAt h p) : xgR h 0 8 0 = some 1 := gR H.1 0 rfl
theorem NowAt.n0 {h : XH} {p : Nat → Int} (H : NowAt h p) : xgR h 1 5 0 = some 2 := H.2.r0
theorem NowAt.n1 {h : XH} {p : Nat → Int} (H : NowAt h p) : xgR h 1 5 1 = some 6 := H.2.r1
theorem NowAt.n2 {h : XH} {p : Nat → Int} (H : NowAt h p) : xgR h 1 5 2 = some 7 := H.2.r2
theorem NowAt.n3 {h : XH} {p : Nat → Int} (H : NowAt h p) : xgR h 1 5 3 = some 10 := H.2.r3
theorem NowAt.sc {h : XH} {p : Nat → Int} (H : NowAt h p) : xco h 1 5 = some () := H.2.c
theorem NowAt.w {h : XH} {p : Nat → Int} (H : NowAt h p) : WhAt h 2 p := H.2.w
theorem NowAt.f {h : XH} {p : Nat → Int} (H : NowAt h p) : FlAt h 6 p := H.2.f
theorem NowAt.rd {h : XH} {p : Nat → Int} (H : NowAt h p) : RdAt h 7 p := H.2.rd
theorem NowAt.d {h : XH} {p : Nat → Int} (H : NowAt h p) : DiAt h 10 p := H.2.d
def isT (z : Int) : Bool := decide (0 ≤ z ∧ z ≤ 1000)
theorem ctick {z : Int} (hz : -2147483648 ≤ z ∧ z < 2147483648) : fX8_isTick (i32 z) = some (isT z) := by
  unfold fX8_isTick
  rw [L_0, L_1000, within_ok hz (by omega) (by omega)]
  rfl
theorem mtick {z : Int} (hz : -2147483648 ≤ z ∧ z < 2147483648) : fX9_isTick (i32 z) = some (isT z) := by
  unfold fX9_isTick
  rw [L_0, L_1000, in_ok hz (by omega) (by omega)]
  rfl
theorem cplace {h : XH} {p : Nat → Int} (H : NowAt h p) (hV : VP p) {z : Int} (hz : -2147483648 ≤ z ∧ z < 2147483648) : fX8_isPlace h 0 (i32 z) = some (decide (0 ≤ z ∧ z ≤ p 0 - 1)) := by
  unfold fX8_isPlace
  have := hV.n
  rw [H.n]; simp only [Option.bind_some]
  rw [H.n0]; simp only [Option.bind_some]
  rw [H.w.i3]; simp only [Option.bind_some, L_0, L_1, i32_sub]
  rw [within_ok hz (by omega) (by omega)]
  rfl
theorem mplace {h0 h : XH} {A : Nat → Nat → Int32} {S : Nat → Int32} {Z : Int64} (M : MdAt h0 h A S Z) {p : Nat → Int} (G : PgAt A p) (hV : VP p) {z : Int} (hz : -2147483648 ≤ z ∧ z < 2147483648) : fX9_isCell h 102 (i32 z) = some (decide (0 ≤ z ∧ z ≤ p 0 - 1)) := by
  unfold fX9_isCell
  have := hV.n
  rw [M.c]; simp only [Option.bind_some]
  rw [cells_ok M G]; simp only [Option.bind_some, L_0, L_1, i32_sub]
  rw [in_ok hz (by omega) (by omega)]
  rfl
theorem mk_mod {p : Nat → Int} (hV : VP p) (x : Int) : 0 ≤ x % p 0 ∧ x % p 0 < p 0 := ⟨Int.emod_nonneg _ (by have := hV.n; omega), Int.emod_lt_of_pos _ (by have := hV.n; omega)⟩
theorem s_dvd {p : Nat → Int} (hV : VP p) : (msr p : Int) ∣ p 0 := by
  have e : p 0 = ((p 0).toNat : Int) := by have := hV.n; omega
  rw [e]
  exact Int.ofNat_dvd.mpr (msr_dvd hV)
theorem s_mod {p : Nat → Int} (hV : VP p) (x : Int) : 0 ≤ x % (msr p : Int) ∧ x % (msr p : Int) < msr p := ⟨Int.emod_nonneg _ (by have := msr_rng hV; omega), Int.emod_lt_of_pos _ (by have := msr_rng hV; omega)⟩
theorem sub_mod_n {n x y : Int} : (x - y % n) % n = (x - y) % n := by rw [Int.sub_emod, Int.emod_emod, ← Int.sub_emod]
theorem sub_mod_s {s n x y : Int} (h : s ∣ n) : (x % n - y % n) % s = (x - y) % s := by rw [Int.sub_emod, Int.emod_emod_of_dvd _ h, Int.emod_emod_of_dvd _ h, ← Int.sub_emod]
/-! turn -/
def aTurn (p : Nat → Int) (z : Int) : Int := if isT z = true then trn p z.toNat % p 0 else -1001
theorem cTurn {h : XH} {p : Nat → Int} (H : NowAt h p) (hV : VP p) {z : Int} (hz : -2147483648 ≤ z ∧ z < 2147483648) : fX8_turn h 0 (i32 z) = some (i32 (aTurn p z)) := by
  unfold fX8_turn aTurn
  rw [ctick hz]; simp only [Option.bind_some]
  split
  · rename_i q
    simp only [isT, decide_eq_true_eq] at q
    have hn := hV.n
    have hr := trn_rng hV z.toNat
    rw [H.n]; simp only [Option.bind_some]
    rw [H.n0]; simp only [Option.bind_some]
    rw [H.w.c]; simp only [Option.bind_some]
    have e : i32 z = i32 (z.toNat : Int) := by congr 1; omega
    rw [e, cturn_ok H.w hV (by omega)]; simp only [Option.bind_some]
    rw [H.w.i3]; simp only [Option.bind_some]
    rw [mod_ok (by omega) (by omega)]
    rfl
  · rfl
theorem mTurn {h0 h : XH} {A : Nat → Nat → Int32} {S : Nat → Int32} {Z : Int64} (M : MdAt h0 h A S Z) {p : Nat → Int} (G : PgAt A p) (hV : VP p) {z : Int} (hz : -2147483648 ≤ z ∧ z < 2147483648) : MOp h0 A S Z (aTurn p z) (fX9_turn h 102 (i32 z)) := by
  unfold fX9_turn aTurn
  rw [mtick hz]; simp only [Option.bind_some]
  split
  · rename_i q
    simp only [isT, decide_eq_true_eq] at q
    rw [M.c]; simp only [Option.bind_some]
    obtain ⟨h', A', S', e, M', K, L⟩ := lays_op M G hV
    rw [e]; simp only [Option.bind_some]
    rw [M'.r2]; simp only [Option.bind_some]
    rw [M'.a1 (by omega), L.1 _ (by omega)]
    exact ⟨h', A', S', rfl, M', K⟩
  · exact ⟨h, A, S, rfl, M, Kp.rf A S⟩
end
section
theorem cMarkOf {h : XH} {p : Nat → Int} (H : NowAt h p) (hV : VP p) {i : Int} (hi : 0 ≤ i ∧ i < p 0) : fX6_markOf h 2 (i32 i) = some (i32 (p (1 + i.toNat))) := by
  unfold fX6_markOf
  rw [H.w.r0]; simp only [Option.bind_some]
  rw [H.w.mark hV hi]
  rfl
def aMark (p : Nat → Int) (z q : Int) : Int := if isT z = true then (if decide (0 ≤ q ∧ q ≤ p 0 - 1) = true then p (1 + ((q - trn p z.toNat) % p 0).toNat) else -1001) else -1001
theorem cMark {h : XH} {p : Nat → Int} (H : NowAt h p) (hV : VP p) {z q : Int} (hz : -2147483648 ≤ z ∧ z < 2147483648) (hq : -2147483648 ≤ q ∧ q < 2147483648) : fX8_markAt h 0 (i32 z) (i32 q) = some (i32 (aMark p z q)) := by
  unfold fX8_markAt aMark
  have hn := hV.n
  rw [ctick hz]; simp only [Option.bind_some]
  split
  · rename_i y
    simp only [isT, decide_eq_true_eq] at y
    rw [H.c]; simp only [Option.bind_some]
    rw [cplace H hV hq]; simp only [Option.bind_some]
    split
    · rename_i x
      simp only [decide_eq_true_eq] at x
      have hr := trn_rng hV z.toNat
      have hm := mk_mod hV (q - trn p z.toNat)
      rw [H.n]; simp only [Option.bind_some]
      rw [H.n0]; simp only [Option.bind_some]
      rw [H.w.c]; simp only [Option.bind_some]
      have e : i32 z = i32 (z.toNat : Int) := by congr 1; omega
      rw [e, cturn_ok H.w hV (by omega)]; simp only [Option.bind_some]
      rw [H.w.i3]; simp only [Option.bind_some, i32_sub]
      rw [mod_ok (by omega) (by omega)]; simp only [Option.bind_some]
      rw [cMarkOf H hV hm]
      rfl
    · rfl
  · rfl
theorem seen_ok {h0 h : XH} {A : Nat → Nat → Int32} {S : Nat → Int32} {Z : Int64} (M : MdAt h0 h A S Z) {p : Nat → Int} (G : PgAt A p) (L : LdAt A S p) (hV : VP p) {t : Nat} (ht : t ≤ 1000) {q : Int} (hq : 0 ≤ q ∧ q < p 0) : fX9_seenAt h 102 (i32 t) (i32 q) = some (i32 (p (1 + ((q - trn p t) % p 0).toNat))) := by
  have hn := hV.n
  have hm := mk_mod hV (q - trn p t)
  have hm2 := mk_mod hV (trn p t)
  unfold fX9_seenAt
  rw [M.r0, M.r2]; simp only [Option.bind_some]
  rw [M.a1 (by omega), M.c]; simp only [Option.bind_some]
  rw [cells_ok M G, Int.toNat_natCast, L.1 t ht]; simp only [Option.bind_some, i32_sub]
  rw [modulo_ok (by omega) (by omega), sub_mod_n]; simp only [Option.bind_some, L_1, i32_add]
  rw [M.pg G (by omega)]
  rw [show (1 + (q - trn p t) % p 0).toNat = 1 + ((q - trn p t) % p 0).toNat by omega]
  rfl
theorem mMark {h0 h : XH} {A : Nat → Nat → Int32} {S : Nat → Int32} {Z : Int64} (M : MdAt h0 h A S Z) {p : Nat → Int} (G : PgAt A p) (hV : VP p) {z q : Int} (hz : -2147483648 ≤ z ∧ z < 2147483648) (hq : -2147483648 ≤ q ∧ q < 2147483648) : MOp h0 A S Z (aMark p z q) (fX9_markAt h 102 (i32 z) (i32 q)) := by
  unfold fX9_markAt aMark
  rw [mtick hz]; simp only [Option.bind_some]
  split
  · rename_i y
    simp only [isT, decide_eq_true_eq] at y
    rw [M.c]; simp only [Option.bind_some]
    rw [mplace M G hV hq]; simp only [Option.bind_some]
    split
    · rename_i x
      simp only [decide_eq_true_eq] at x
      obtain ⟨h', A', S', e, M', K, L⟩ := lays_op M G hV
      rw [e]; simp only [Option.bind_some]
      rw [M'.c]; simp only [Option.bind_some]
      have e : i32 z = i32 (z.toNat : Int) := by congr 1; omega
      rw [e, seen_ok M' (G.kp K) L hV (by omega) (by omega)]
      exact ⟨h', A', S', rfl, M', K⟩
    · exact ⟨h, A, S, rfl, M, Kp.rf A S⟩
  · exact ⟨h, A, S, rfl, M, Kp.rf A S⟩
/-! the step -/
noncomputable def wst (p : Nat → Int) (d : Int) : Int := if 2 * (d % (msr p : Int)) ≤ msr p then d % (msr p : Int) else d % (msr p : Int) - msr p
theorem wst_rng {p : Nat → Int} (hV : VP p) (d : Int) : -30 ≤ wst p d ∧ wst p d ≤ 30 := by
  have := s_mod hV d
  have := msr_rng hV
  unfold wst
  split <;> omega
theorem cStepB {h : XH} {p : Nat → Int} (H : NowAt h p) (hV : VP p) {a b : Nat} (ha : a ≤ 1000) (hb : b ≤ 1000) : fX6_stepBetween h 2 (i32 a) (i32 b) (i32 (msr p)) = some (i32 (wst p (trn p b - trn p a))) := by
  unfold fX6_stepBetween wst
  have r1 := trn_rng hV a
  have r2 := trn_rng hV b
  have r3 := msr_rng hV
  have r4 := s_mod hV (trn p b - trn p a)
  rw [H.w.c]; simp only [Option.bind_some]
  rw [cturn_ok H.w hV hb]; simp only [Option.bind_some]
  rw [cturn_ok H.w hV ha]; simp only [Option.bind_some, i32_sub]
  rw [mod_ok (by omega) (by omega)]; simp only [Option.bind_some, L_2, i32_mul, i32_sub]
  rw [cle (by omega)]
  split <;> rfl
theorem mStepO {h0 h : XH} {A : Nat → Nat → Int32} {S : Nat → Int32} {Z : Int64} (M : MdAt h0 h A S Z) {p : Nat → Int} (L : LdAt A S p) (hV : VP p) {a b : Nat} (ha : a ≤ 1000) (hb : b ≤ 1000) : fX9_stepOf h 102 (i32 a) (i32 b) = some (i32 (wst p (trn p b - trn p a))) := by
  unfold fX9_stepOf wst
  have r1 := mk_mod hV (trn p a)
  have r2 := mk_mod hV (trn p b)
  have r3 := msr_rng hV
  have hn := hV.n
  have r4 := s_mod hV (trn p b - trn p a)
  rw [M.r2]; simp only [Option.bind_some]
  rw [M.a1 (by omega), M.a1 (by omega), M.i3, L.2]; simp only [Option.bind_some]
  rw [Int.toNat_natCast, Int.toNat_natCast, L.1 a ha, L.1 b hb, i32_sub, modulo_ok (by omega) (by omega), sub_mod_s (s_dvd hV)]; simp only [Option.bind_some, L_2, i32_mul, i32_sub]
  rw [clt (by omega)]
  by_cases q : (msr p : Int) < 2 * ((trn p b - trn p a) % (msr p : Int))
  · rw [if_pos q, if_neg (by omega)]
  · rw [if_neg q, if_pos (by omega)]
noncomputable def aStep (p : Nat → Int) (a b : Int) : Int := if isT a = true then (if isT b = true then wst p (trn p b.toNat - trn p a.toNat) else -1001) else -1001
theorem cStep {h : XH} {p : Nat → Int} (H : NowAt h p) (hV : VP p) {a b : Int} (ha : -2147483648 ≤ a ∧ a < 2147483648) (hb : -2147483648 ≤ b ∧ b < 2147483648) : fX8_step h 0 (i32 a) (i32 b) = some (i32 (aStep p a b)) := by
  unfold fX8_step aStep
  rw [ctick ha]; simp only [Option.bind_some]
  split
  · rename_i y
    simp only [isT, decide_eq_true_eq] at y
    rw [ctick hb]; simp only [Option.bind_some]
    split
    · rename_i x
      simp only [isT, decide_eq_true_eq] at x
      rw [H.n]; simp only [Option.bind_some]
      rw [H.n0]; simp only [Option.bind_some]
      rw [H.w.c]; simp only [Option.bind_some]
      rw [cmsr_ok H.w hV]; simp only [Option.bind_some]
      have e1 : i32 a = i32 (a.toNat : Int) := by congr 1; omega
      have e2 : i32 b = i32 (b.toNat : Int) := by congr 1; omega
      rw [e1, e2, cStepB H hV (by omega) (by omega)]
      rfl
    · rfl
  · rfl
theorem mStep {h0 h : XH} {A : Nat → Nat → Int32} {S : Nat → Int32} {Z : Int64} (M : MdAt h0 h A S Z) {p : Nat → Int} (G : PgAt A p) (hV : VP p) {a b : Int} (ha : -2147483648 ≤ a ∧ a < 2147483648) (hb : -2147483648 ≤ b ∧ b < 2147483648) : MOp h0 A S Z (aStep p a b) (fX9_step h 102 (i32 a) (i32 b)) := by
  unfold fX9_step aStep
  rw [mtick ha]; simp only [Option.bind_some]
  split
  · rename_i y
    simp only [isT, decide_eq_true_eq] at y
    rw [mtick hb]; simp only [Option.bind_some]
    split
    · rename_i x
      simp only [isT, decide_eq_true_eq] at x
      rw [M.c]; simp only [Option.bind_some]
      obtain ⟨h', A', S', e, M', K, L⟩ := lays_op M G hV
      rw [e]; simp only [Option.bind_some]
      rw [M'.c]; simp only [Option.bind_some]
      have e1 : i32 a = i32 (a.toNat : Int) := by congr 1; omega
      have e2 : i32 b = i32 (b.toNat : Int) := by congr 1; omega
      rw [e1, e2, mStepO M' L hV (by omega) (by omega)]
      exact ⟨h', A', S', rfl, M', K⟩
    · exact ⟨h, A, S, rfl, M, Kp.rf A S⟩
  · exact ⟨h, A, S, rfl, M, Kp.rf A S⟩
/-! flashes -/
def nfl (p : Nat → Int) : Int := (1000 - p 74) / p 75 + 1
def tkf (p : Nat → Int) (k : Int) : Int := p 74 + k * p 75
theorem nfl_rng {p : Nat → Int} (hV : VP p) : 1 ≤ nfl p ∧ nfl p ≤ 1001 := by
  have h1 := hV.first
  have h2 := hV.per
  unfold nfl
  have a := Int.ediv_nonneg (show 0 ≤ 1000 - p 74 by omega) (show 0 ≤ p 75 by omega)
  have b := Int.ediv_le_self (p 75) (show 0 ≤ 1000 - p 74 by omega)
  omega
theorem tkf_rng {p : Nat → Int} (hV : VP p) {k : Int} (hk : 0 ≤ k ∧ k ≤ nfl p - 1) : 0 ≤ tkf p k ∧ tkf p k ≤ 1000 := by
  have h1 := hV.first
  have h2 := hV.per
  unfold nfl at hk
  unfold tkf
  have a := Int.mul_nonneg hk.1 (show 0 ≤ p 75 by omega)
  have b := Int.ediv_mul_le (1000 - p 74) (show p 75 ≠ 0 by omega)
  have c := Int.mul_le_mul_of_nonneg_right (show k ≤ (1000 - p 74) / p 75 by omega) (show 0 ≤ p 75 by omega)
  omega
theorem tdiv_pos {a b : Int} (ha : 0 ≤ a) : a.tdiv b = a / b := Int.tdiv_eq_ediv_of_nonneg ha
theorem cnfl {h : XH} {a : Nat} {p : Nat → Int} (H : FlAt h a p) (hV : VP p) : fX2_number h a = some (i32 (nfl p)) := by
  unfold fX2_number nfl
  have h1 := hV.first
  have h2 := hV.per
  rw [H.i1, H.i0]; simp only [Option.bind_some, L_0, L_1, L_1000, i32_sub]
  rw [ile_f (by omega), ieq_f (by omega), i32_div (by omega) (by omega), tdiv_pos (by omega), i32_add]
theorem ctkf {h : XH} {a : Nat} {p : Nat → Int} (H : FlAt h a p) (k : Int) : fX2_tickOf h a (i32 k) = some (i32 (tkf p k)) := by
  unfold fX2_tickOf tkf
  rw [H.i1, H.i0]; simp only [Option.bind_some, i32_mul, i32_add]
theorem mnfl {h0 h : XH} {A : Nat → Nat → Int32} {S : Nat → Int32} {Z : Int64} (M : MdAt h0 h A S Z) {p : Nat → Int} (G : PgAt A p) (hV : VP p) : fX9_flashes h 102 = some (i32 (nfl p)) := by
  unfold fX9_flashes nfl
  have h1 := hV.first
  have h2 := hV.per
  rw [M.r0]; simp only [Option.bind_some, L_74, L_75]
  rw [M.pg G (by omega), M.pg G (by omega)]; simp only [Option.bind_some, L_0, L_1, L_1000, i32_sub, Int.reduceToNat]
  rw [ieq_f (by omega), i32_div (by omega) (by omega), tdiv_pos (by omega), i32_add]
theorem mtkf {h0 h : XH} {A : Nat → Nat → Int32} {S : Nat → Int32} {Z : Int64} (M : MdAt h0 h A S Z) {p : Nat → Int} (G : PgAt A p) (k : Int) : fX9_tickOfFlash h 102 (i32 k) = some (i32 (tkf p k)) := by
  unfold fX9_tickOfFlash tkf
  rw [M.r0]; simp only [Option.bind_some, L_74, L_75]
  rw [M.pg G (by omega), M.pg G (by omega)]; simp only [Option.bind_some, i32_mul, i32_add, Int.reduceToNat]
def isF (p : Nat → Int) (z : Int) : Bool := decide (0 ≤ z ∧ z ≤ nfl p - 1)
theorem cflash {h : XH} {p : Nat → Int} (H : NowAt h p) (hV : VP p) {z : Int} (hz : -2147483648 ≤ z ∧ z < 2147483648) : fX8_isFlash h 0 (i32 z) = some (isF p z) := by
  unfold fX8_isFlash isF
  have := nfl_rng hV
  rw [H.n]; simp only [Option.bind_some]
  rw [H.n1]; simp only [Option.bind_some]
  rw [H.f.c]; simp only [Option.bind_some]
  rw [cnfl H.f hV]; simp only [Option.bind_some, L_0, L_1, i32_sub]
  rw [within_ok hz (by omega) (by omega)]
  rfl
theorem mflash {h0 h : XH} {A : Nat → Nat → Int32} {S : Nat → Int32} {Z : Int64} (M : MdAt h0 h A S Z) {p : Nat → Int} (G : PgAt A p) (hV : VP p) {z : Int} (hz : -2147483648 ≤ z ∧ z < 2147483648) : fX9_isFlash h 102 (i32 z) = some (isF p z) := by
  unfold fX9_isFlash isF
  have := nfl_rng hV
  rw [M.c]; simp only [Option.bind_some]
  rw [mnfl M G hV]; simp only [Option.bind_some, L_0, L_1, i32_sub]
  rw [in_ok hz (by omega) (by omega)]
  rfl
/-- the first place, from k on, at most f places farther -/
def lst (P : Nat → Bool) : Nat → Nat → Nat
  | 0, k => k
  | f + 1, k => if P k then k else lst P f (k + 1)
theorem lst_ok {P : Nat → Bool} : ∀ (f k : Nat), k ≤ lst P f k ∧ lst P f k ≤ k + f ∧ (∀ j, k ≤ j → j < lst P f k → P j = false) ∧ (lst P f k < k + f → P (lst P f k) = true)
  | 0, k => ⟨Nat.le_refl _, Nat.le_refl _, fun j a b => by simp only [lst] at b; omega, fun h => by simp only [lst] at h; omega⟩
  | f + 1, k => by
    simp only [lst]
    split
    · rename_i q
      exact ⟨by omega, by omega, fun j a b => by omega, fun _ => q⟩
    · rename_i q
      obtain ⟨a, b, c, d⟩ := lst_ok (P := P) f (k + 1)
      refine ⟨by omega, by omega, fun j x y => ?_, fun x => d (by omega)⟩
      rcases Nat.lt_or_ge k j with w | w
      · exact c j w y
      · obtain rfl : k = j := by omega
        simpa using q
noncomputable def smP (p : Nat → Int) (z : Int) : Nat → Bool := fun k => decide ((trn p (tkf p z).toNat - trn p (tkf p k).toNat) % (msr p : Int) = 0)
noncomputable def erl (p : Nat → Int) (z : Int) : Nat := lst (smP p z) z.toNat 0
theorem wst_0 {p : Nat → Int} (hV : VP p) (d : Int) : wst p d = 0 ↔ d % (msr p : Int) = 0 := by
  have := s_mod hV d
  have := msr_rng hV
  unfold wst
  split <;> omega
end
section
theorem mulb {a b : Int} {A B : Nat} (ha : a.natAbs ≤ A) (hb : b.natAbs ≤ B) : (a * b).natAbs ≤ A * B := by
  rw [Int.natAbs_mul]; exact Nat.mul_le_mul ha hb
/-! the earliest flash with the same picture -/
theorem ceq_b {a b : Int} (h : (-2147483648 ≤ a ∧ a < 2147483648) ∧ (-2147483648 ≤ b ∧ b < 2147483648)) : (i32 a = i32 b) ↔ a = b := by rw [i32_eq h]
theorem erl_ok {p : Nat → Int} {z : Int} (hz : 0 ≤ z) : (erl p z : Int) ≤ z ∧ (∀ j, j < erl p z → smP p z j = false) ∧ smP p z (erl p z) = true := by
  obtain ⟨a, b, c, d⟩ := lst_ok (P := smP p z) z.toNat 0
  refine ⟨by unfold erl; omega, fun j hj => c j (by omega) hj, ?_⟩
  rcases Nat.lt_or_ge (erl p z) (0 + z.toNat) with q | q
  · exact d q
  · have e : erl p z = z.toNat := by unfold erl at q ⊢; omega
    unfold smP
    rw [e, decide_eq_true_eq]
    rw [show ((z.toNat : Nat) : Int) = z by omega, Int.sub_self, Int.zero_emod]
theorem cearl_step {h : XH} {p : Nat → Int} (H : NowAt h p) (hV : VP p) {z : Int} (hz : 0 ≤ z ∧ z ≤ nfl p - 1) {i : Nat} (hi : (i : Int) < z) : fX5_earliestAlike_B31 h 1 (i32 z) (i32 (msr p)) (i32 (trn p (tkf p z).toNat % (msr p : Int))) (i32 i) = some (if smP p z i = true then .inr (.inl (i32 i)) else .inl (i32 (i + 1 : Nat))) := by
  unfold fX5_earliestAlike_B31 fX5_earliestAlike_b31
  have hn := nfl_rng hV
  have h1 := tkf_rng hV (k := i) (by omega)
  have h2 := trn_rng hV (tkf p i).toNat
  have h3 := msr_rng hV
  have h4 := s_mod hV (trn p (tkf p i).toNat)
  have h5 := s_mod hV (trn p (tkf p z).toNat)
  rw [ile_f (by omega), H.n0, H.n1]; simp only [Option.bind_some]
  rw [H.f.c]; simp only [Option.bind_some]
  rw [ctkf H.f]; simp only [Option.bind_some]
  rw [H.w.c]; simp only [Option.bind_some]
  have e : i32 (tkf p i) = i32 ((tkf p i).toNat : Int) := by congr 1; omega
  rw [e, cturn_ok H.w hV (by omega)]; simp only [Option.bind_some]
  rw [mod_ok (by omega) (by omega)]; simp only [Option.bind_some, L_1, i32_add]
  rw [ceq (by omega)]
  have k : (trn p (tkf p i).toNat % (msr p : Int) = trn p (tkf p z).toNat % (msr p : Int)) ↔ smP p z i = true := by
    unfold smP
    rw [decide_eq_true_eq, ← Int.emod_eq_emod_iff_emod_sub_eq_zero]
    exact eq_comm
  by_cases q : smP p z i = true
  · rw [if_pos q, if_pos (k.mpr q)]
  · rw [if_neg q, if_neg (fun x => q (k.mp x))]
    rfl
theorem cearl {h : XH} {p : Nat → Int} (H : NowAt h p) (hV : VP p) {z : Int} (hz : 0 ≤ z ∧ z ≤ nfl p - 1) : fX5_earliestAlike h 1 (i32 z) = some (i32 (erl p z)) := by
  have hn := nfl_rng hV
  have h1 := tkf_rng hV hz
  have h2 := trn_rng hV (tkf p z).toNat
  have h3 := msr_rng hV
  obtain ⟨e1, e2, e3⟩ := erl_ok (p := p) hz.1
  unfold fX5_earliestAlike
  rw [H.n0, H.n1]; simp only [Option.bind_some]
  rw [H.w.c]; simp only [Option.bind_some]
  rw [cmsr_ok H.w hV]; simp only [Option.bind_some]
  rw [H.f.c]; simp only [Option.bind_some]
  rw [ctkf H.f]; simp only [Option.bind_some]
  have e : i32 (tkf p z) = i32 ((tkf p z).toNat : Int) := by congr 1; omega
  rw [e, cturn_ok H.w hV (by omega)]; simp only [Option.bind_some]
  rw [mod_ok (by omega) (by omega)]; simp only [Option.bind_some]
  have step : ∀ i, i < erl p z → fX5_earliestAlike_B31 h 1 (i32 z) (i32 (msr p)) (i32 (trn p (tkf p z).toNat % (msr p : Int))) (i32 i) = some (.inl (i32 (i + 1 : Nat))) := fun i hi => by
    rw [cearl_step H hV hz (by omega), if_neg (by rw [e2 i hi]; exact Bool.false_ne_true)]
  rcases Int.lt_or_le (erl p z : Int) z with q | q
  · have f := xl_run (fX5_earliestAlike_B31 h 1 (i32 z) (i32 (msr p)) (i32 (trn p (tkf p z).toNat % (msr p : Int)))) (fun i => i32 i) (erl p z) (.inl (i32 (erl p z))) step (by rw [cearl_step H hV hz q, if_pos e3]) 5000 (by omega)
    rw [L_0, show i32 0 = i32 ((0 : Nat) : Int) from rfl, f]
    rfl
  · have f := xl_run (fX5_earliestAlike_B31 h 1 (i32 z) (i32 (msr p)) (i32 (trn p (tkf p z).toNat % (msr p : Int)))) (fun i => i32 i) (erl p z) (.inr ()) step (by
      unfold fX5_earliestAlike_B31 fX5_earliestAlike_b31
      rw [ile_t (by omega)]) 5000 (by omega)
    rw [L_0, show i32 0 = i32 ((0 : Nat) : Int) from rfl, f]
    simp only [Option.bind_some]
    congr 2
    omega
theorem mearl {h0 h : XH} {A : Nat → Nat → Int32} {S : Nat → Int32} {Z : Int64} (M : MdAt h0 h A S Z) {p : Nat → Int} (G : PgAt A p) (L : LdAt A S p) (hV : VP p) {z : Int} (hz : 0 ≤ z ∧ z ≤ nfl p - 1) : fX9_earliest h 102 (i32 z) = some (i32 (erl p z)) := by
  have hn := nfl_rng hV
  have h1 := tkf_rng hV hz
  obtain ⟨e1, e2, e3⟩ := erl_ok (p := p) hz.1
  have step : ∀ i : Nat, (i : Int) ≤ z → fX9_earliest_B2 h 102 (i32 z) (i32 i) = some (if smP p z i = true then .inr (i32 i) else .inl (i32 (i + 1 : Nat))) := fun i hi => by
    have h2 := tkf_rng hV (k := i) (by omega)
    unfold fX9_earliest_B2 fX9_earliest_b2 fX9_isSamePicture
    rw [M.c]; simp only [Option.bind_some]
    rw [mtkf M G]; simp only [Option.bind_some]
    rw [mtkf M G]; simp only [Option.bind_some]
    have a1 : i32 (tkf p i) = i32 ((tkf p i).toNat : Int) := by congr 1; omega
    have a2 : i32 (tkf p z) = i32 ((tkf p z).toNat : Int) := by congr 1; omega
    have r := wst_rng hV (trn p (tkf p z).toNat - trn p (tkf p i).toNat)
    rw [a1, a2, mStepO M L hV (by omega) (by omega)]; simp only [Option.bind_some, L_0, L_1, i32_add]
    rw [ceq (by omega)]
    have k : wst p (trn p (tkf p z).toNat - trn p (tkf p i).toNat) = 0 ↔ smP p z i = true := by
      rw [wst_0 hV]
      unfold smP
      rw [decide_eq_true_eq]
    by_cases q : smP p z i = true
    · rw [if_pos q, if_pos (k.mpr q)]; rfl
    · rw [if_neg q, if_neg (fun x => q (k.mp x))]; rfl
  have f := xl_run (fX9_earliest_B2 h 102 (i32 z)) (fun i => i32 i) (erl p z) (i32 (erl p z)) (fun i hi => by
    rw [step i (by omega), if_neg (by rw [e2 i hi]; exact Bool.false_ne_true)]) (by rw [step _ (by omega), if_pos e3]) 5000 (by omega)
  unfold fX9_earliest
  rw [L_0, show i32 0 = i32 ((0 : Nat) : Int) from rfl, f]
  rfl
theorem mbehind {h0 h : XH} {A : Nat → Nat → Int32} {S : Nat → Int32} {Z : Int64} (M : MdAt h0 h A S Z) {p : Nat → Int} (G : PgAt A p) (L : LdAt A S p) (hV : VP p) {z : Int} (hz : 0 ≤ z ∧ z ≤ nfl p - 1) : fX9_stepBehind h 102 (i32 z) = some (i32 (if z = nfl p - 1 then -1004 else wst p (trn p (tkf p (z + 1)).toNat - trn p (tkf p z).toNat))) := by
  have hn := nfl_rng hV
  have h1 := tkf_rng hV hz
  unfold fX9_stepBehind
  rw [M.c]; simp only [Option.bind_some]
  rw [mnfl M G hV]; simp only [Option.bind_some, L_1, i32_sub, i32_add]
  rw [ceq (by omega)]
  split
  · rw [L_m1004]
  · have h2 := tkf_rng hV (k := z + 1) (by omega)
    rw [mtkf M G]; simp only [Option.bind_some]
    rw [mtkf M G]; simp only [Option.bind_some]
    have a1 : i32 (tkf p z) = i32 ((tkf p z).toNat : Int) := by congr 1; omega
    have a2 : i32 (tkf p (z + 1)) = i32 ((tkf p (z + 1)).toNat : Int) := by congr 1; omega
    rw [a1, a2, mStepO M L hV (by omega) (by omega)]
    rfl
/-! flash -/
noncomputable def aFlash (p : Nat → Int) (z w : Int) : Int := if isF p z = true then (if decide (0 ≤ w ∧ w ≤ 3) = true then (if w = 0 then tkf p z else if w = 1 then trn p (tkf p z).toNat % p 0 else if w = 2 then (if z = nfl p - 1 then -1004 else wst p (trn p (tkf p (z + 1)).toNat - trn p (tkf p z).toNat)) else (erl p z : Int)) else -1001) else -1001
theorem cFlash {h : XH} {p : Nat → Int} (H : NowAt h p) (hV : VP p) {z w : Int} (hz : -2147483648 ≤ z ∧ z < 2147483648) (hw : -2147483648 ≤ w ∧ w < 2147483648) : fX8_flash h 0 (i32 z) (i32 w) = some (i32 (aFlash p z w)) := by
  unfold fX8_flash aFlash
  have hn := nfl_rng hV
  rw [H.c]; simp only [Option.bind_some]
  rw [cflash H hV hz]; simp only [Option.bind_some]
  split
  · rename_i y
    simp only [isF, decide_eq_true_eq] at y
    have ht := tkf_rng hV y
    simp only [L_0, L_1, L_2, L_3, L_m1004, L_m1001]
    rw [within_ok hw (by omega) (by omega)]; simp only [Option.bind_some]
    split
    · rename_i x
      simp only [decide_eq_true_eq] at x
      rw [H.n]; simp only [Option.bind_some]
      rw [H.n1]; simp only [Option.bind_some]
      rw [H.f.c]; simp only [Option.bind_some]
      rw [ctkf H.f]; simp only [Option.bind_some]
      rw [ceq (by omega), ceq (by omega), ceq (by omega)]
      split
      · rfl
      · split
        · rw [cTurn H hV (by omega)]
          simp only [Option.bind_some]
          rw [aTurn, if_pos (by simp only [isT, decide_eq_true_eq]; exact ht)]
        · split
          · simp only [i32_add]
            rw [cflash H hV (by omega)]; simp only [Option.bind_some]
            by_cases q : z = nfl p - 1
            · rw [if_pos q, if_neg (by simp only [isF, decide_eq_true_eq]; omega)]
            · rw [if_neg q, if_pos (by simp only [isF, decide_eq_true_eq]; omega)]
              have ht2 := tkf_rng hV (k := z + 1) (by omega)
              rw [ctkf H.f]; simp only [Option.bind_some]
              rw [cStep H hV (by omega) (by omega)]
              simp only [Option.bind_some]
              rw [aStep, if_pos (by simp only [isT, decide_eq_true_eq]; exact ht), if_pos (by simp only [isT, decide_eq_true_eq]; exact ht2)]
          · rw [H.sc]; simp only [Option.bind_some]
            rw [cearl H hV y]
            rfl
    · rfl
  · rw [L_m1001]
theorem mFlash {h0 h : XH} {A : Nat → Nat → Int32} {S : Nat → Int32} {Z : Int64} (M : MdAt h0 h A S Z) {p : Nat → Int} (G : PgAt A p) (hV : VP p) {z w : Int} (hz : -2147483648 ≤ z ∧ z < 2147483648) (hw : -2147483648 ≤ w ∧ w < 2147483648) : MOp h0 A S Z (aFlash p z w) (fX9_flash h 102 (i32 z) (i32 w)) := by
  unfold fX9_flash aFlash
  have hn := nfl_rng hV
  rw [M.c]; simp only [Option.bind_some]
  rw [mflash M G hV hz]; simp only [Option.bind_some]
  split
  · rename_i y
    simp only [isF, decide_eq_true_eq] at y
    have ht := tkf_rng hV y
    simp only [L_0, L_1, L_2, L_3, L_m1001]
    rw [in_ok hw (by omega) (by omega)]; simp only [Option.bind_some]
    split
    · obtain ⟨h', A', S', e, M', K, L⟩ := lays_op M G hV
      have G' := G.kp K
      rw [e]; simp only [Option.bind_some]
      rw [ceq (by omega), ceq (by omega), ceq (by omega), M'.c]; simp only [Option.bind_some]
      rw [mtkf M' G']; simp only [Option.bind_some]
      split
      · exact ⟨h', A', S', rfl, M', K⟩
      · split
        · rw [M'.r2]; simp only [Option.bind_some]
          rw [M'.a1 (by omega), L.1 _ (by omega)]
          exact ⟨h', A', S', rfl, M', K⟩
        · split
          · rw [mbehind M' G' L hV y]
            exact ⟨h', A', S', rfl, M', K⟩
          · rw [mearl M' G' L hV y]
            exact ⟨h', A', S', rfl, M', K⟩
    · exact ⟨h, A, S, rfl, M, Kp.rf A S⟩
  · rw [L_m1001]; exact ⟨h, A, S, rfl, M, Kp.rf A S⟩
/-! how often it seems to go -/
noncomputable def sgn (p : Nat → Int) (w : Int) : Nat → Bool := fun k => decide ((if wst p (trn p (tkf p (k + 1 : Nat)).toNat - trn p (tkf p k).toNat) = 0 then (0 : Int) else if wst p (trn p (tkf p (k + 1 : Nat)).toNat - trn p (tkf p k).toNat) ≤ 0 then 2 else 1) = w)
theorem cseem {h : XH} {p : Nat → Int} (H : NowAt h p) (hV : VP p) {w : Int} (hw : 0 ≤ w ∧ w ≤ 2) : fX5_countSeeming h 1 (i32 w) = some (i32 (cnt (sgn p w) (nfl p - 1).toNat)) := by
  have hn := nfl_rng hV
  unfold fX5_countSeeming
  rw [H.n0, H.n1]; simp only [Option.bind_some]
  rw [H.w.c]; simp only [Option.bind_some]
  rw [cmsr_ok H.w hV, H.f.c]; simp only [Option.bind_some]
  rw [cnfl H.f hV]; simp only [Option.bind_some]
  have f := xl_run (fX5_countSeeming_B22 h 1 (i32 w) (i32 (msr p)) (i32 (nfl p))) (fun i => (i32 (cnt (sgn p w) i), i32 i)) (nfl p - 1).toNat (i32 (cnt (sgn p w) (nfl p - 1).toNat)) (fun i hi => by
    have h1 := tkf_rng hV (k := i) (by omega)
    have h2 := tkf_rng hV (k := (i + 1 : Nat)) (by omega)
    have r := wst_rng hV (trn p (tkf p (i + 1 : Nat)).toNat - trn p (tkf p i).toNat)
    unfold fX5_countSeeming_B22 fX5_countSeeming_b22 fX5_countSeeming_J79
    simp only [L_0, L_1, L_2, i32_add]
    rw [ile_f (by omega), H.n0, H.n1]; simp only [Option.bind_some]
    rw [H.f.c]; simp only [Option.bind_some]
    rw [ctkf H.f, ctkf H.f]; simp only [Option.bind_some]
    rw [H.w.c]; simp only [Option.bind_some]
    have a1 : i32 (tkf p i) = i32 ((tkf p i).toNat : Int) := by congr 1; omega
    have a2 : i32 (tkf p ((i : Int) + 1)) = i32 ((tkf p (i + 1 : Nat)).toNat : Int) := by
      rw [show ((i : Int) + 1) = ((i + 1 : Nat) : Int) by omega]; congr 1; omega
    rw [a1, a2, cStepB H hV (by omega) (by omega)]; simp only [Option.bind_some]
    rw [ceq (by omega), cle (by omega), ceq (by omega), ceq (by omega), ceq (by omega)]
    have key : cnt (sgn p w) (i + 1) = cnt (sgn p w) i + (if sgn p w i then 1 else 0) := rfl
    rw [key]
    unfold sgn
    simp only [decide_eq_true_eq]
    split
    · split <;> simp
    · split
      · split <;> simp
      · split <;> simp) (by
    unfold fX5_countSeeming_B22 fX5_countSeeming_b22
    simp only [L_1, i32_add]
    rw [ile_t (by omega)]) 5000 (by omega)
  rw [L_0]
  have f2 : xloop (fX5_countSeeming_B22 h 1 (i32 w) (i32 (msr p)) (i32 (nfl p))) 5000 (i32 0, i32 0) = some (i32 (cnt (sgn p w) (nfl p - 1).toNat)) := f
  rw [f2]
  rfl
theorem mseem {h0 h : XH} {A : Nat → Nat → Int32} {S : Nat → Int32} {Z : Int64} (M : MdAt h0 h A S Z) {p : Nat → Int} (G : PgAt A p) (L : LdAt A S p) (hV : VP p) {w : Int} (hw : 0 ≤ w ∧ w ≤ 2) : xloop (fX9_seems_B31 h 102 (i32 w)) 5000 (i32 0, i32 0) = some (i32 (cnt (sgn p w) (nfl p - 1).toNat)) := by
  have hn := nfl_rng hV
  have f := xl_run (fX9_seems_B31 h 102 (i32 w)) (fun i => (i32 (cnt (sgn p w) i), i32 i)) (nfl p - 1).toNat (i32 (cnt (sgn p w) (nfl p - 1).toNat)) (fun i hi => by
    have r := wst_rng hV (trn p (tkf p (i + 1 : Nat)).toNat - trn p (tkf p i).toNat)
    unfold fX9_seems_B31 fX9_seems_b31 fX9_seems_J79 fX9_seems_J83
    rw [M.c]; simp only [Option.bind_some, L_0, L_1, i32_add]
    rw [mnfl M G hV]; simp only [Option.bind_some]
    rw [ile_f (by omega), mbehind M G L hV (by omega)]; simp only [Option.bind_some]
    rw [if_neg (show ¬ (i : Int) = nfl p - 1 by omega), show ((i : Int) + 1) = ((i + 1 : Nat) : Int) by omega, ceq (by omega), ceq (by omega), ceq (by omega), cle (by omega), cle (by omega)]
    have key : cnt (sgn p w) (i + 1) = cnt (sgn p w) i + (if decide ((if wst p (trn p (tkf p (i + 1 : Nat)).toNat - trn p (tkf p i).toNat) = 0 then (0 : Int) else if wst p (trn p (tkf p (i + 1 : Nat)).toNat - trn p (tkf p i).toNat) ≤ 0 then 2 else 1) = w) then 1 else 0) := rfl
    rw [key]
    generalize cnt (sgn p w) i = c
    generalize wst p (trn p (tkf p (i + 1 : Nat)).toNat - trn p (tkf p i).toNat) = g
    simp only [decide_eq_true_eq]
    rcases (show w = 0 ∨ w = 1 ∨ w = 2 by omega) with rfl | rfl | rfl
    · rw [if_pos rfl]
      by_cases q : g = 0
      · simp [q]
      · by_cases q2 : g ≤ 0 <;> simp [q, q2]
    · rw [if_neg (by omega), if_pos rfl]
      by_cases q : g = 0
      · simp [q]
      · by_cases q2 : g ≤ 0 <;> simp [q, q2]
    · rw [if_neg (by omega), if_neg (by omega)]
      by_cases q : g = 0
      · simp [q]
      · by_cases q2 : g ≤ 0
        · have q3 : ¬ (0 : Int) ≤ g := by omega
          simp [q, q2, q3]
        · have q3 : (0 : Int) ≤ g := by omega
          simp [q, q2, q3]) (by
    unfold fX9_seems_B31 fX9_seems_b31
    rw [M.c]; simp only [Option.bind_some, L_1, i32_add]
    rw [mnfl M G hV]; simp only [Option.bind_some]
    rw [ile_t (by omega)]) 5000 (by omega)
  exact f
end
section
theorem nx_and (a b : Nat) : nI a &&& nI b = nI (a &&& b) := by
  apply Int32.toBitVec_inj.1
  show BitVec.ofNat 32 a &&& BitVec.ofNat 32 b = BitVec.ofNat 32 (a &&& b)
  apply BitVec.eq_of_getLsbD_eq
  intro i hi
  simp [hi]
theorem wb_tb (n : Nat) : (lN n).toBitVec = BitVec.ofNat 64 n := rfl
theorem wb_inj {a b : Int64} (h : a.toBitVec = b.toBitVec) : a = b := Int64.toBitVec_inj.mp h
theorem wb_tn {n : Nat} (h : n < 2 ^ 64) : (lN n).toBitVec.toNat = n := by rw [wb_tb, BitVec.toNat_ofNat, Nat.mod_eq_of_lt h]
theorem wb_of (x : Int64) : ∃ n, n < 2 ^ 64 ∧ x = lN n := ⟨x.toBitVec.toNat, x.toBitVec.isLt, wb_inj (by rw [wb_tb]; simp)⟩
theorem wb_of32 (x : Int32) : ∃ n, n < 2 ^ 32 ∧ x = nI n := ⟨x.toBitVec.toNat, x.toBitVec.isLt, Int32.toBitVec_inj.mp (by show _ = BitVec.ofNat 32 _; simp)⟩
theorem wb_c : ∀ k, k < 64 → ((nI k).toInt64 &&& 63) = lN k := by decide +kernel
theorem wb_cu : ∀ k, k < 64 → ((nI k).toInt64.toUInt64 &&& Int64.toUInt64 63) = UInt64.ofNat k := by decide +kernel
theorem wb_sm : ∀ k, k < 64 → (BitVec.ofNat 64 k).smod 64 = BitVec.ofNat 64 k := by decide +kernel
theorem wb_pw {a b : Nat} (h : a ≤ b) : 2 ^ b = 2 ^ a * 2 ^ (b - a) := by rw [← Nat.pow_add]; congr 1; omega
theorem wb_lt2 {a b : Nat} (h : a < b) : 2 ^ a < 2 ^ b := Nat.pow_lt_pow_right (by decide) h
theorem wb_mod (n : Nat) : lN n = lN (n % 2 ^ 64) := wb_inj (by rw [wb_tb, wb_tb]; apply BitVec.eq_of_toNat_eq; rw [BitVec.toNat_ofNat, BitVec.toNat_ofNat, Nat.mod_mod])
theorem wb_shr {n k : Nat} (hn : n < 2 ^ 64) (hk : k < 64) : ((lN n).toUInt64 >>> ((nI k).toInt64.toUInt64 &&& Int64.toUInt64 63)).toInt64 = lN (n / 2 ^ k) := by
  rw [wb_cu k hk]
  apply wb_inj
  apply BitVec.eq_of_toNat_eq
  show ((lN n).toUInt64 >>> UInt64.ofNat k).toNat = (BitVec.ofNat 64 _).toNat
  have h1 : (UInt64.ofNat k).toNat = k := by
    show (BitVec.ofNat 64 k).toNat = k
    rw [BitVec.toNat_ofNat, Nat.mod_eq_of_lt (by omega)]
  have h2 : (lN n).toUInt64.toNat = n := wb_tn hn
  rw [UInt64.toNat_shiftRight, h1, h2, Nat.mod_eq_of_lt hk, Nat.shiftRight_eq_div_pow, BitVec.toNat_ofNat, Nat.mod_eq_of_lt (Nat.lt_of_le_of_lt (Nat.div_le_self _ _) hn)]
theorem wb_shl (n : Nat) {k : Nat} (hk : k < 64) : lN n <<< ((nI k).toInt64 &&& 63) = lN (n * 2 ^ k) := by
  rw [wb_c k hk]
  apply wb_inj
  rw [Int64.toBitVec_shiftLeft, wb_tb, wb_tb, wb_tb, wb_sm k hk]
  apply BitVec.eq_of_toNat_eq
  rw [BitVec.shiftLeft_eq', BitVec.toNat_shiftLeft, BitVec.toNat_ofNat, BitVec.toNat_ofNat, BitVec.toNat_ofNat, Nat.mod_eq_of_lt (show k < 2 ^ 64 by omega), Nat.shiftLeft_eq, Nat.mul_mod, Nat.mod_mod, ← Nat.mul_mod]
theorem wb_and {a b : Nat} (ha : a < 2 ^ 64) (hb : b < 2 ^ 64) : lN a &&& lN b = lN (a &&& b) := by
  apply wb_inj
  rw [Int64.toBitVec_and, wb_tb, wb_tb, wb_tb]
  apply BitVec.eq_of_toNat_eq
  rw [BitVec.toNat_and, BitVec.toNat_ofNat, BitVec.toNat_ofNat, BitVec.toNat_ofNat, Nat.mod_eq_of_lt ha, Nat.mod_eq_of_lt hb, Nat.mod_eq_of_lt (Nat.and_lt_two_pow _ hb)]
theorem wb_or {a b : Nat} (ha : a < 2 ^ 64) (hb : b < 2 ^ 64) : lN a ||| lN b = lN (a ||| b) := by
  apply wb_inj
  rw [Int64.toBitVec_or, wb_tb, wb_tb, wb_tb]
  apply BitVec.eq_of_toNat_eq
  rw [BitVec.toNat_or, BitVec.toNat_ofNat, BitVec.toNat_ofNat, BitVec.toNat_ofNat, Nat.mod_eq_of_lt ha, Nat.mod_eq_of_lt hb, Nat.mod_eq_of_lt (Nat.or_lt_two_pow ha hb)]
theorem wb_mask {n k : Nat} (hn : n < 2 ^ 64) (hk : k < 64) : lN n &&& lN (2 ^ k - 1) = lN (n % 2 ^ k) := by
  rw [wb_and hn (by have := wb_lt2 hk; omega), Nat.and_two_pow_sub_one_eq_mod]
theorem wb_a1 {n : Nat} (hn : n < 2 ^ 64) : lN n &&& 1 = lN (n % 2) := wb_mask (k := 1) hn (by decide)
theorem wb_bit {n k : Nat} (hn : n < 2 ^ 64) (hk : k < 64) : ((lN n).toUInt64 >>> ((nI k).toInt64.toUInt64 &&& Int64.toUInt64 63)).toInt64 &&& 1 = lN (n / 2 ^ k % 2) := by
  rw [wb_shr hn hk, wb_a1 (Nat.lt_of_le_of_lt (Nat.div_le_self _ _) hn)]
/-! sets of small numbers as longs -/
theorem nI_i32 (k : Nat) : nI k = i32 k := rfl
theorem lg_cmp0 (x y : Int64) : lg_cmp x y = 0 ↔ x = y := by
  unfold lg_cmp
  rcases lg_tri x y with h | h | h
  · have := lg_lt_not h
    have := lg_lt_ne h
    simp [*]
  · subst h
    simp
  · have := lg_lt_not h
    have := lg_lt_ne h
    simp only [h]
    simp
    intro q
    exact this q.symm
theorem hasBit_ok {N : Nat} (hN : N < 2 ^ 64) {k : Int} (hk : 0 ≤ k ∧ k < 64) : fX8_hasBit (lN N) (i32 k) = some (N.testBit k.toNat) := by
  unfold fX8_hasBit xlushr
  have e : i32 k = nI k.toNat := by rw [nI_i32]; congr 1; omega
  rw [e, wb_bit hN (by omega)]
  have h1 : (1 : Int64) = lN 1 := by decide
  rw [h1]
  have h2 : N / 2 ^ k.toNat % 2 = if N.testBit k.toNat then 1 else 0 := by
    rw [Nat.testBit_eq_decide_div_mod_eq]
    split
    · rename_i q; simpa using q
    · rename_i q; simp at q; omega
  rw [h2]
  cases N.testBit k.toNat with
  | true => exact if_pos ((lg_cmp0 (lN 1) (lN 1)).mpr rfl)
  | false => rw [if_neg (fun q => absurd ((lg_cmp0 _ _).mp q) (by decide))]
theorem setBit_ok {N : Nat} (hN : N < 2 ^ 60) {k : Int} (hk : 0 ≤ k ∧ k < 60) : lN N ||| xlshl (1 : Int64) (i32 k) = lN (N ||| 2 ^ k.toNat) ∧ N ||| 2 ^ k.toNat < 2 ^ 60 := by
  have e : i32 k = nI k.toNat := by rw [nI_i32]; congr 1; omega
  have h1 : (1 : Int64) = lN 1 := by decide
  have hp : 2 ^ k.toNat < 2 ^ 60 := Nat.pow_lt_pow_right (by decide) (by omega)
  refine ⟨?_, Nat.or_lt_two_pow hN hp⟩
  unfold xlshl
  rw [e, h1, wb_shl 1 (by omega), Nat.one_mul, wb_or (by omega) (by omega)]
theorem setBit_at (N k i : Nat) : (N ||| 2 ^ k).testBit i = (N.testBit i || decide (k = i)) := by
  rw [Nat.testBit_or, Nat.testBit_two_pow]
/-! counting bits, byte by byte -/
theorem byt_and {d m : Nat} (X Y : Nat) (hd : d < 256) (hm : m < 256) : (256 * X + d) &&& (256 * Y + m) = 256 * (X &&& Y) + (d &&& m) := by
  apply Nat.eq_of_testBit_eq
  intro i
  have e : (256 : Nat) = 2 ^ 8 := by decide
  rw [Nat.testBit_and, e, Nat.testBit_two_pow_mul_add _ (by omega), Nat.testBit_two_pow_mul_add _ (by omega), Nat.testBit_two_pow_mul_add _ (Nat.lt_of_le_of_lt Nat.and_le_left (by omega))]
  split
  · rw [Nat.testBit_and]
  · rw [Nat.testBit_and]
theorem byt_shr {d m : Nat} (X Y k : Nat) (hd : d < 256) (hk : k ≤ 8) (hm : m < 2 ^ (8 - k)) : ((256 * X + d) >>> k) &&& (256 * Y + m) = 256 * ((X >>> k) &&& Y) + ((d >>> k) &&& m) := by
  have hm2 : m < 256 := Nat.lt_of_lt_of_le hm (by
    have : 2 ^ (8 - k) ≤ 2 ^ 8 := Nat.pow_le_pow_right (by decide) (by omega)
    exact this)
  apply Nat.eq_of_testBit_eq
  intro i
  have e : (256 : Nat) = 2 ^ 8 := by decide
  rw [Nat.testBit_and, Nat.testBit_shiftRight, e, Nat.testBit_two_pow_mul_add _ (by omega), Nat.testBit_two_pow_mul_add _ (by omega), Nat.testBit_two_pow_mul_add _ (Nat.lt_of_le_of_lt Nat.and_le_right (by omega))]
  by_cases hi : i < 8
  · rw [if_pos hi, if_pos hi, Nat.testBit_and, Nat.testBit_shiftRight]
    by_cases hk2 : k + i < 8
    · rw [if_pos hk2]
    · have : m.testBit i = false := Nat.testBit_lt_two_pow (Nat.lt_of_lt_of_le hm (Nat.pow_le_pow_right (by decide) (by omega)))
      rw [this]
      simp
  · rw [if_neg hi, if_neg hi, if_neg (by omega), Nat.testBit_and, Nat.testBit_shiftRight]
    congr 2
    omega
def pA (m X : Nat) : Nat := X - ((X >>> 1) &&& m)
def pC (m X : Nat) : Nat := (X &&& m) + ((X >>> 2) &&& m)
theorem pA_le (m X : Nat) : (X >>> 1) &&& m ≤ X := Nat.le_trans Nat.and_le_left (by rw [Nat.shiftRight_eq_div_pow]; exact Nat.div_le_self _ _)
theorem pA_b (X Y : Nat) {d : Nat} (hd : d < 256) : pA (256 * Y + 85) (256 * X + d) = 256 * pA Y X + pA 85 d := by
  unfold pA
  rw [byt_shr X Y 1 hd (by omega) (by decide)]
  have := pA_le Y X
  have := pA_le 85 d
  omega
theorem pC_b (X Y : Nat) {d : Nat} (hd : d < 256) : pC (256 * Y + 51) (256 * X + d) = 256 * pC Y X + pC 51 d := by
  unfold pC
  rw [byt_shr X Y 2 hd (by omega) (by decide), byt_and X Y hd (by omega)]
  omega
def pT (d : Nat) : Nat := pC 51 (pA 85 d)
theorem pT_small : ∀ d, d < 256 → pA 85 d < 256 ∧ pT d ≤ 68 ∧ pT d % 16 ≤ 4 := by decide +kernel
theorem pop8 : ∀ d, d < 256 → (pT d + pT d / 16) % 16 = cnt (fun i => d.testBit i) 8 := by decide +kernel
theorem pC_A_b (X Y Z : Nat) {d : Nat} (hd : d < 256) : pC (256 * Z + 51) (pA (256 * Y + 85) (256 * X + d)) = 256 * pC Z (pA Y X) + pT d := by
  rw [pA_b X Y hd, pC_b _ Z (pT_small d hd).1]
  rfl
theorem pC_A_0 : pC 0 (pA 0 0) = 0 := by decide
/-- (Y + Y/16) with the low half of each byte kept -/
theorem pD_b (X M : Nat) {c : Nat} (hc : c ≤ 68) (hX : X % 16 ≤ 4) : ((256 * X + c) + (256 * X + c) >>> 4) &&& (256 * M + 15) = 256 * ((X + X >>> 4) &&& M) + (c + c / 16) % 16 := by
  rw [Nat.shiftRight_eq_div_pow, Nat.shiftRight_eq_div_pow]
  have e : 256 * X + c + (256 * X + c) / 2 ^ 4 = 256 * (X + X / 2 ^ 4) + (16 * (X % 16) + c + c / 16) := by
    simp only [Nat.reducePow]
    omega
  rw [e, byt_and _ _ (by omega) (by omega)]
  congr 1
  rw [show (15 : Nat) = 2 ^ 4 - 1 from rfl, Nat.and_two_pow_sub_one_eq_mod]
  simp only [Nat.reducePow]
  omega
theorem cnt_add (P : Nat → Bool) (a : Nat) : ∀ b, cnt P (a + b) = cnt P a + cnt (fun i => P (a + i)) b
  | 0 => rfl
  | b + 1 => by
    show cnt P (a + b) + _ = _
    rw [cnt_add P a b]
    exact Nat.add_assoc _ _ _
theorem cnt_byte (X : Nat) {d : Nat} (hd : d < 256) (n : Nat) : cnt (fun i => (256 * X + d).testBit i) (8 + n) = cnt (fun i => d.testBit i) 8 + cnt (fun i => X.testBit i) n := by
  rw [cnt_add]
  have e : (256 : Nat) = 2 ^ 8 := by decide
  congr 1
  · apply cnt_congr
    intro i hi
    rw [e, Nat.testBit_two_pow_mul_add _ (by omega), if_pos hi]
  · apply cnt_congr
    intro i hi
    rw [e, Nat.testBit_two_pow_mul_add _ (by omega), if_neg (by omega)]
    congr 1
    omega
theorem cnt8_le (d : Nat) : cnt (fun i => d.testBit i) 8 ≤ 8 := cnt_le _ 8
theorem bytes8 {N : Nat} (h : N < 2 ^ 64) : ∃ d0 d1 d2 d3 d4 d5 d6 d7 : Nat, d0 < 256 ∧ d1 < 256 ∧ d2 < 256 ∧ d3 < 256 ∧ d4 < 256 ∧ d5 < 256 ∧ d6 < 256 ∧ d7 < 256 ∧ N = (256 * (256 * (256 * (256 * (256 * (256 * (256 * (256 * 0 + d7) + d6) + d5) + d4) + d3) + d2) + d1) + d0) := by
  refine ⟨N % 256, N / 256 % 256, N / 65536 % 256, N / 16777216 % 256, N / 4294967296 % 256, N / 1099511627776 % 256, N / 281474976710656 % 256, N / 72057594037927936 % 256, ?_⟩
  refine ⟨by omega, by omega, by omega, by omega, by omega, by omega, by omega, by omega, by omega⟩
theorem bytes4 {N : Nat} (h : N < 2 ^ 32) : ∃ d0 d1 d2 d3 : Nat, d0 < 256 ∧ d1 < 256 ∧ d2 < 256 ∧ d3 < 256 ∧ N = (256 * (256 * (256 * (256 * 0 + d3) + d2) + d1) + d0) := by
  refine ⟨N % 256, N / 256 % 256, N / 65536 % 256, N / 16777216 % 256, ?_⟩
  refine ⟨by omega, by omega, by omega, by omega, by omega⟩
theorem pop64a {N : Nat} (h : N < 2 ^ 64) : ∃ e0 e1 e2 e3 e4 e5 e6 e7 : Nat, e0 ≤ 8 ∧ e1 ≤ 8 ∧ e2 ≤ 8 ∧ e3 ≤ 8 ∧ e4 ≤ 8 ∧ e5 ≤ 8 ∧ e6 ≤ 8 ∧ e7 ≤ 8 ∧ (pC 3689348814741910323 (pA 6148914691236517205 N) + (pC 3689348814741910323 (pA 6148914691236517205 N)) >>> 4) &&& 1085102592571150095 = (256 * (256 * (256 * (256 * (256 * (256 * (256 * (256 * 0 + e7) + e6) + e5) + e4) + e3) + e2) + e1) + e0) ∧ cnt (fun i => N.testBit i) 64 = e0 + e1 + e2 + e3 + e4 + e5 + e6 + e7 ∧ pC 3689348814741910323 (pA 6148914691236517205 N) < 2 ^ 63 := by
  obtain ⟨d0, d1, d2, d3, d4, d5, d6, d7, h0, h1, h2, h3, h4, h5, h6, h7, rfl⟩ := bytes8 h
  have hA : pC 3689348814741910323 (pA 6148914691236517205 (256 * (256 * (256 * (256 * (256 * (256 * (256 * (256 * 0 + d7) + d6) + d5) + d4) + d3) + d2) + d1) + d0)) = (256 * (256 * (256 * (256 * (256 * (256 * (256 * (256 * 0 + pT d7) + pT d6) + pT d5) + pT d4) + pT d3) + pT d2) + pT d1) + pT d0) := by
    rw [show (3689348814741910323 : Nat) = (256 * (256 * (256 * (256 * (256 * (256 * (256 * (256 * 0 + 51) + 51) + 51) + 51) + 51) + 51) + 51) + 51) from rfl, show (6148914691236517205 : Nat) = (256 * (256 * (256 * (256 * (256 * (256 * (256 * (256 * 0 + 85) + 85) + 85) + 85) + 85) + 85) + 85) + 85) from rfl]
    rw [pC_A_b _ _ _ h0, pC_A_b _ _ _ h1, pC_A_b _ _ _ h2, pC_A_b _ _ _ h3, pC_A_b _ _ _ h4, pC_A_b _ _ _ h5, pC_A_b _ _ _ h6, pC_A_b _ _ _ h7, pC_A_0]
  refine ⟨cnt (fun i => d0.testBit i) 8, cnt (fun i => d1.testBit i) 8, cnt (fun i => d2.testBit i) 8, cnt (fun i => d3.testBit i) 8, cnt (fun i => d4.testBit i) 8, cnt (fun i => d5.testBit i) 8, cnt (fun i => d6.testBit i) 8, cnt (fun i => d7.testBit i) 8, cnt8_le _, cnt8_le _, cnt8_le _, cnt8_le _, cnt8_le _, cnt8_le _, cnt8_le _, cnt8_le _, ?_, ?_, ?_⟩
  · rw [hA, show (1085102592571150095 : Nat) = (256 * (256 * (256 * (256 * (256 * (256 * (256 * (256 * 0 + 15) + 15) + 15) + 15) + 15) + 15) + 15) + 15) from rfl]
    have p0 := pT_small d0 h0
    have p1 := pT_small d1 h1
    have p2 := pT_small d2 h2
    have p3 := pT_small d3 h3
    have p4 := pT_small d4 h4
    have p5 := pT_small d5 h5
    have p6 := pT_small d6 h6
    have p7 := pT_small d7 h7
    rw [pD_b _ _ p0.2.1 (by omega), pD_b _ _ p1.2.1 (by omega), pD_b _ _ p2.2.1 (by omega), pD_b _ _ p3.2.1 (by omega), pD_b _ _ p4.2.1 (by omega), pD_b _ _ p5.2.1 (by omega), pD_b _ _ p6.2.1 (by omega), pD_b _ _ p7.2.1 (by omega)]
    rw [pop8 d0 h0, pop8 d1 h1, pop8 d2 h2, pop8 d3 h3, pop8 d4 h4, pop8 d5 h5, pop8 d6 h6, pop8 d7 h7]
    rfl
  · show cnt _ (8 + (8 + (8 + (8 + (8 + (8 + (8 + (8 + 0)))))))) = _
    rw [cnt_byte _ h0, cnt_byte _ h1, cnt_byte _ h2, cnt_byte _ h3, cnt_byte _ h4, cnt_byte _ h5, cnt_byte _ h6, cnt_byte _ h7]
    show cnt (fun i => d0.testBit i) 8 + (cnt (fun i => d1.testBit i) 8 + (cnt (fun i => d2.testBit i) 8 + (cnt (fun i => d3.testBit i) 8 + (cnt (fun i => d4.testBit i) 8 + (cnt (fun i => d5.testBit i) 8 + (cnt (fun i => d6.testBit i) 8 + (cnt (fun i => d7.testBit i) 8 + 0))))))) = _
    omega
  · rw [hA]
    have p0 := pT_small d0 h0
    have p1 := pT_small d1 h1
    have p2 := pT_small d2 h2
    have p3 := pT_small d3 h3
    have p4 := pT_small d4 h4
    have p5 := pT_small d5 h5
    have p6 := pT_small d6 h6
    have p7 := pT_small d7 h7
    simp only [Nat.reducePow]
    omega
theorem pop32a {N : Nat} (h : N < 2 ^ 32) : ∃ e0 e1 e2 e3 : Nat, e0 ≤ 8 ∧ e1 ≤ 8 ∧ e2 ≤ 8 ∧ e3 ≤ 8 ∧ (pC 858993459 (pA 1431655765 N) + (pC 858993459 (pA 1431655765 N)) >>> 4) &&& 252645135 = (256 * (256 * (256 * (256 * 0 + e3) + e2) + e1) + e0) ∧ cnt (fun i => N.testBit i) 32 = e0 + e1 + e2 + e3 ∧ pC 858993459 (pA 1431655765 N) < 2 ^ 31 := by
  obtain ⟨d0, d1, d2, d3, h0, h1, h2, h3, rfl⟩ := bytes4 h
  have hA : pC 858993459 (pA 1431655765 (256 * (256 * (256 * (256 * 0 + d3) + d2) + d1) + d0)) = (256 * (256 * (256 * (256 * 0 + pT d3) + pT d2) + pT d1) + pT d0) := by
    rw [show (858993459 : Nat) = (256 * (256 * (256 * (256 * 0 + 51) + 51) + 51) + 51) from rfl, show (1431655765 : Nat) = (256 * (256 * (256 * (256 * 0 + 85) + 85) + 85) + 85) from rfl]
    rw [pC_A_b _ _ _ h0, pC_A_b _ _ _ h1, pC_A_b _ _ _ h2, pC_A_b _ _ _ h3, pC_A_0]
  refine ⟨cnt (fun i => d0.testBit i) 8, cnt (fun i => d1.testBit i) 8, cnt (fun i => d2.testBit i) 8, cnt (fun i => d3.testBit i) 8, cnt8_le _, cnt8_le _, cnt8_le _, cnt8_le _, ?_, ?_, ?_⟩
  · rw [hA, show (252645135 : Nat) = (256 * (256 * (256 * (256 * 0 + 15) + 15) + 15) + 15) from rfl]
    have p0 := pT_small d0 h0
    have p1 := pT_small d1 h1
    have p2 := pT_small d2 h2
    have p3 := pT_small d3 h3
    rw [pD_b _ _ p0.2.1 (by omega), pD_b _ _ p1.2.1 (by omega), pD_b _ _ p2.2.1 (by omega), pD_b _ _ p3.2.1 (by omega)]
    rw [pop8 d0 h0, pop8 d1 h1, pop8 d2 h2, pop8 d3 h3]
    rfl
  · show cnt _ (8 + (8 + (8 + (8 + 0)))) = _
    rw [cnt_byte _ h0, cnt_byte _ h1, cnt_byte _ h2, cnt_byte _ h3]
    show cnt (fun i => d0.testBit i) 8 + (cnt (fun i => d1.testBit i) 8 + (cnt (fun i => d2.testBit i) 8 + (cnt (fun i => d3.testBit i) 8 + 0))) = _
    omega
  · rw [hA]
    have p0 := pT_small d0 h0
    have p1 := pT_small d1 h1
    have p2 := pT_small d2 h2
    have p3 := pT_small d3 h3
    simp only [Nat.reducePow]
    omega
theorem lush {n : Nat} (hn : n < 2 ^ 64) {k : Nat} (hk : k < 64) {x : Int32} (hx : x = i32 k) : xlushr (lN n) x = lN (n >>> k) := by
  unfold xlushr
  rw [hx, ← nI_i32, wb_shr hn hk, Nat.shiftRight_eq_div_pow]
theorem fold64 {e0 e1 e2 e3 e4 e5 e6 e7 V V1 V2 V3 V4 V5 V6 V7 W : Nat} (k0 : e0 ≤ 8) (k1 : e1 ≤ 8) (k2 : e2 ≤ 8) (k3 : e3 ≤ 8) (k4 : e4 ≤ 8) (k5 : e5 ≤ 8) (k6 : e6 ≤ 8) (k7 : e7 ≤ 8) (r0 : V = 256 * V1 + e0) (r1 : V1 = 256 * V2 + e1) (r2 : V2 = 256 * V3 + e2) (r3 : V3 = 256 * V4 + e3) (r4 : V4 = 256 * V5 + e4) (r5 : V5 = 256 * V6 + e5) (r6 : V6 = 256 * V7 + e6) (r7 : V7 = e7) (hW : W = V + V / 256) : (W + W / 65536 + (W + W / 65536) / 4294967296) % 128 = e0 + e1 + e2 + e3 + e4 + e5 + e6 + e7 := by
  have a1 : V / 256 = V1 := by rw [r0]; clear r0 r1 r2 r3 r4 r5 r6 r7 hW; omega
  have b0 : V = 65536 * V2 + (256 * e1 + e0) := by rw [r0, r1]; clear r0 r1 r2 r3 r4 r5 r6 r7 hW a1; omega
  have b1 : V1 = 65536 * V3 + (256 * e2 + e1) := by rw [r1, r2]; clear r0 r1 r2 r3 r4 r5 r6 r7 hW a1 b0; omega
  have b2 : V2 = 65536 * V4 + (256 * e3 + e2) := by rw [r2, r3]; clear r0 r1 r2 r3 r4 r5 r6 r7 hW a1 b0 b1; omega
  have b3 : V3 = 65536 * V5 + (256 * e4 + e3) := by rw [r3, r4]; clear r0 r1 r2 r3 r4 r5 r6 r7 hW a1 b0 b1 b2; omega
  have b4 : V4 = 65536 * V6 + (256 * e5 + e4) := by rw [r4, r5]; clear r0 r1 r2 r3 r4 r5 r6 r7 hW a1 b0 b1 b2 b3; omega
  have b5 : V5 = 65536 * V7 + (256 * e6 + e5) := by rw [r5, r6]; clear r0 r1 r2 r3 r4 r5 r6 r7 hW a1 b0 b1 b2 b3 b4; omega
  have a2 : W / 65536 = V2 + V3 := by
    rw [hW, a1]
    clear r0 r1 r2 r3 r4 r5 r6 r7 hW a1 b2 b3 b4 b5
    omega
  have c0 : V = 4294967296 * V4 + (65536 * (256 * e3 + e2) + (256 * e1 + e0)) := by rw [b0, b2]; clear r0 r1 r2 r3 r4 r5 r6 r7 hW a1 a2 b0 b1 b2 b3 b4 b5; omega
  have c1 : V1 = 4294967296 * V5 + (65536 * (256 * e4 + e3) + (256 * e2 + e1)) := by rw [b1, b3]; clear r0 r1 r2 r3 r4 r5 r6 r7 hW a1 a2 b0 b1 b2 b3 b4 b5 c0; omega
  have c2 : V2 = 4294967296 * V6 + (65536 * (256 * e5 + e4) + (256 * e3 + e2)) := by rw [b2, b4]; clear r0 r1 r2 r3 r4 r5 r6 r7 hW a1 a2 b0 b1 b2 b3 b4 b5 c0 c1; omega
  have c3 : V3 = 4294967296 * V7 + (65536 * (256 * e6 + e5) + (256 * e4 + e3)) := by rw [b3, b5]; clear r0 r1 r2 r3 r4 r5 r6 r7 hW a1 a2 b0 b1 b2 b3 b4 b5 c0 c1 c2; omega
  have d : (W + W / 65536) / 4294967296 = V4 + V5 + V6 + V7 := by
    rw [a2, hW, a1]
    clear r0 r1 r2 r3 r4 r5 r6 r7 hW a1 a2 b0 b1 b2 b3 b4 b5
    omega
  rw [d, a2, hW, a1]
  clear hW a1 a2 b0 b1 b2 b3 b4 b5 c0 c1 c2 c3 d
  omega
theorem fold32 {e0 e1 e2 e3 V V1 V2 V3 : Nat} (k0 : e0 ≤ 8) (k1 : e1 ≤ 8) (k2 : e2 ≤ 8) (k3 : e3 ≤ 8) (r0 : V = 256 * V1 + e0) (r1 : V1 = 256 * V2 + e1) (r2 : V2 = 256 * V3 + e2) (r3 : V3 = e3) : (V + V / 256 + (V + V / 256) / 65536) % 64 = e0 + e1 + e2 + e3 := by
  have a1 : V / 256 = V1 := by rw [r0]; clear r0 r1 r2 r3; omega
  have b0 : V = 65536 * V2 + (256 * e1 + e0) := by rw [r0, r1]; clear r0 r1 r2 r3 a1; omega
  have b1 : V1 = 65536 * V3 + (256 * e2 + e1) := by rw [r1, r2]; clear r0 r1 r2 r3 a1 b0; omega
  have a2 : (V + V / 256) / 65536 = V2 + V3 := by
    rw [a1]
    clear r0 r1 r2 r3 a1
    omega
  rw [a2, a1]
  clear a1 a2 b0 b1
  omega
theorem bitCountJ_ok {N : Nat} (h : N < 2 ^ 64) : fJ13_bitCount_95d88 (lN N) = some (i32 (cnt (fun i => N.testBit i) 64)) := by
  obtain ⟨e0, e1, e2, e3, e4, e5, e6, e7, k0, k1, k2, k3, k4, k5, k6, k7, q1, q2, q3⟩ := pop64a h
  unfold fJ13_bitCount_95d88
  simp only [xlet]
  have c1 : (6148914691236517205 : Int64) = lN 6148914691236517205 := by decide
  have c2 : (3689348814741910323 : Int64) = lN 3689348814741910323 := by decide
  have c3 : (1085102592571150095 : Int64) = lN 1085102592571150095 := by decide
  have lA := pA_le 6148914691236517205 N
  have y1 : lN N - (xlushr (lN N) 1 &&& 6148914691236517205) = lN (pA 6148914691236517205 N) := by
    rw [lush h (k := 1) (by omega) (by decide), c1, wb_and (by rw [Nat.shiftRight_eq_div_pow]; omega) (by decide), lN_sub lA]
    rfl
  have hA : pA 6148914691236517205 N < 2 ^ 64 := by unfold pA; omega
  rw [y1]
  have y2 : (lN (pA 6148914691236517205 N) &&& 3689348814741910323) + (xlushr (lN (pA 6148914691236517205 N)) 2 &&& 3689348814741910323) = lN (pC 3689348814741910323 (pA 6148914691236517205 N)) := by
    rw [lush hA (k := 2) (by omega) (by decide), c2, wb_and hA (by decide), wb_and (by rw [Nat.shiftRight_eq_div_pow]; omega) (by decide), lN_add]
    rfl
  rw [y2]
  generalize pC 3689348814741910323 (pA 6148914691236517205 N) = Y at q1 q3 ⊢
  have y3 : (lN Y + xlushr (lN Y) 4) &&& (1085102592571150095 : Int64) = lN ((Y + Y >>> 4) &&& 1085102592571150095) := by
    rw [lush (by omega) (k := 4) (by omega) (by decide), c3, lN_add, wb_and (by rw [Nat.shiftRight_eq_div_pow]; omega) (by decide)]
  rw [y3, q1]
  generalize hV : (256 * (256 * (256 * (256 * (256 * (256 * (256 * (256 * 0 + e7) + e6) + e5) + e4) + e3) + e2) + e1) + e0) = V
  have hVb : V < 2 ^ 60 := by omega
  rw [lush (by omega) (k := 8) (by omega) (by decide), lN_add, lush (by rw [Nat.shiftRight_eq_div_pow]; omega) (k := 16) (by omega) (by decide), lN_add]
  generalize hW : V + V >>> 8 = W
  rw [Nat.shiftRight_eq_div_pow] at hW
  have hWb : W < 2 ^ 61 := by omega
  rw [lush (by rw [Nat.shiftRight_eq_div_pow]; omega) (k := 32) (by omega) (by decide), lN_add, lN_i]
  have c4 : (127 : Int32) = nI 127 := by decide
  rw [c4, nx_and, nI_i32]
  rw [show (127 : Nat) = 2 ^ 7 - 1 from rfl, Nat.and_two_pow_sub_one_eq_mod, q2]
  congr 3
  rw [Nat.shiftRight_eq_div_pow, Nat.shiftRight_eq_div_pow]
  simp only [Nat.reducePow] at hW hVb hWb ⊢
  clear q1 q2 q3 y1 y2 y3 hA lA c1 c2 c3 c4 h
  obtain ⟨V7, r7⟩ : ∃ x, x = 256 * 0 + e7 := ⟨_, rfl⟩
  obtain ⟨V6, r6⟩ : ∃ x, x = 256 * V7 + e6 := ⟨_, rfl⟩
  obtain ⟨V5, r5⟩ : ∃ x, x = 256 * V6 + e5 := ⟨_, rfl⟩
  obtain ⟨V4, r4⟩ : ∃ x, x = 256 * V5 + e4 := ⟨_, rfl⟩
  obtain ⟨V3, r3⟩ : ∃ x, x = 256 * V4 + e3 := ⟨_, rfl⟩
  obtain ⟨V2, r2⟩ : ∃ x, x = 256 * V3 + e2 := ⟨_, rfl⟩
  obtain ⟨V1, r1⟩ : ∃ x, x = 256 * V2 + e1 := ⟨_, rfl⟩
  rw [← r7, ← r6, ← r5, ← r4, ← r3, ← r2, ← r1] at hV
  exact fold64 k0 k1 k2 k3 k4 k5 k6 k7 hV.symm r1 r2 r3 r4 r5 r6 (by omega) hW.symm
theorem ush {n : Nat} (hn : n < 2 ^ 32) {k : Nat} {x : Int32} (hx : ((x.toUInt32 &&& Int32.toUInt32 31).toBitVec % 32).toNat = k) : xushr (nI n) x = nI (n >>> k) := by
  unfold xushr
  rw [pk_ushrN hn _ k hx, Nat.shiftRight_eq_div_pow]
theorem bitCountI_ok {N : Nat} (h : N < 2 ^ 31) : fJ6_bitCount_0f7a4 (nI N) = some (i32 (cnt (fun i => N.testBit i) 32)) := by
  obtain ⟨e0, e1, e2, e3, k0, k1, k2, k3, q1, q2, q3⟩ := pop32a (N := N) (by omega)
  unfold fJ6_bitCount_0f7a4
  simp only [xlet]
  have c1 : (1431655765 : Int32) = nI 1431655765 := by decide
  have c2 : (858993459 : Int32) = nI 858993459 := by decide
  have c3 : (252645135 : Int32) = nI 252645135 := by decide
  have lA := pA_le 1431655765 N
  have y1 : nI N - (xushr (nI N) 1 &&& 1431655765) = nI (pA 1431655765 N) := by
    rw [ush (by omega) (k := 1) (by decide), c1, nx_and, pk_sub lA]
    rfl
  have hA : pA 1431655765 N < 2 ^ 32 := by unfold pA; omega
  rw [y1]
  have y2 : (nI (pA 1431655765 N) &&& 858993459) + (xushr (nI (pA 1431655765 N)) 2 &&& 858993459) = nI (pC 858993459 (pA 1431655765 N)) := by
    rw [ush hA (k := 2) (by decide), c2, nx_and, nx_and, nI_add]
    rfl
  rw [y2]
  generalize pC 858993459 (pA 1431655765 N) = Y at q1 q3 ⊢
  have y3 : (nI Y + xushr (nI Y) 4) &&& (252645135 : Int32) = nI ((Y + Y >>> 4) &&& 252645135) := by
    rw [ush (by omega) (k := 4) (by decide), c3, nI_add, nx_and]
  rw [y3, q1]
  generalize hV : (256 * (256 * (256 * (256 * 0 + e3) + e2) + e1) + e0) = V
  have hVb : V < 2 ^ 28 := by omega
  rw [ush (by omega) (k := 8) (by decide), nI_add, ush (by rw [Nat.shiftRight_eq_div_pow]; omega) (k := 16) (by decide), nI_add]
  have c4 : (63 : Int32) = nI 63 := by decide
  rw [c4, nx_and, nI_i32]
  rw [show (63 : Nat) = 2 ^ 6 - 1 from rfl, Nat.and_two_pow_sub_one_eq_mod, q2]
  congr 3
  rw [Nat.shiftRight_eq_div_pow, Nat.shiftRight_eq_div_pow]
  simp only [Nat.reducePow] at hVb ⊢
  clear q1 q2 q3 y1 y2 y3 hA lA c1 c2 c3 c4 h
  obtain ⟨V3, r3⟩ : ∃ x, x = 256 * 0 + e3 := ⟨_, rfl⟩
  obtain ⟨V2, r2⟩ : ∃ x, x = 256 * V3 + e2 := ⟨_, rfl⟩
  obtain ⟨V1, r1⟩ : ∃ x, x = 256 * V2 + e1 := ⟨_, rfl⟩
  rw [← r3, ← r2, ← r1] at hV
  exact fold32 k0 k1 k2 k3 hV.symm r1 r2 (by omega)
end
