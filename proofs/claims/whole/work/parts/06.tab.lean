theorem xk_b_m30 : (Int8.ofInt (-30)).toInt32 = (-30) := by decide
theorem xk_b_m10 : (Int8.ofInt (-10)).toInt32 = (-10) := by decide
theorem xk_b_6 : (Int8.ofInt 6).toInt32 = 6 := by decide
theorem xk_b_8 : (Int8.ofInt 8).toInt32 = 8 := by decide
theorem xk_b_9 : (Int8.ofInt 9).toInt32 = 9 := by decide
theorem xk_b_10 : (Int8.ofInt 10).toInt32 = 10 := by decide
theorem xk_b_12 : (Int8.ofInt 12).toInt32 = 12 := by decide
theorem xk_b_16 : (Int8.ofInt 16).toInt32 = 16 := by decide
theorem xk_b_17 : (Int8.ofInt 17).toInt32 = 17 := by decide
theorem xk_b_18 : (Int8.ofInt 18).toInt32 = 18 := by decide
theorem xk_b_20 : (Int8.ofInt 20).toInt32 = 20 := by decide
theorem xk_b_29 : (Int8.ofInt 29).toInt32 = 29 := by decide
theorem xk_b_30 : (Int8.ofInt 30).toInt32 = 30 := by decide
theorem xk_b_32 : (Int8.ofInt 32).toInt32 = 32 := by decide
theorem xk_b_42 : (Int8.ofInt 42).toInt32 = 42 := by decide
theorem xk_b_45 : (Int8.ofInt 45).toInt32 = 45 := by decide
theorem xk_b_46 : (Int8.ofInt 46).toInt32 = 46 := by decide
theorem xk_b_48 : (Int8.ofInt 48).toInt32 = 48 := by decide
theorem xk_b_57 : (Int8.ofInt 57).toInt32 = 57 := by decide
theorem xk_b_59 : (Int8.ofInt 59).toInt32 = 59 := by decide
theorem xk_b_60 : (Int8.ofInt 60).toInt32 = 60 := by decide
theorem xk_b_61 : (Int8.ofInt 61).toInt32 = 61 := by decide
theorem xk_b_62 : (Int8.ofInt 62).toInt32 = 62 := by decide
theorem xk_b_63 : (Int8.ofInt 63).toInt32 = 63 := by decide
theorem xk_b_64 : (Int8.ofInt 64).toInt32 = 64 := by decide
theorem xk_b_74 : (Int8.ofInt 74).toInt32 = 74 := by decide
theorem xk_b_75 : (Int8.ofInt 75).toInt32 = 75 := by decide
theorem xk_b_76 : (Int8.ofInt 76).toInt32 = 76 := by decide
theorem xk_b_77 : (Int8.ofInt 77).toInt32 = 77 := by decide
theorem xk_b_80 : (Int8.ofInt 80).toInt32 = 80 := by decide
theorem xk_b_93 : (Int8.ofInt 93).toInt32 = 93 := by decide
theorem xk_b_94 : (Int8.ofInt 94).toInt32 = 94 := by decide
theorem xk_b_95 : (Int8.ofInt 95).toInt32 = 95 := by decide
theorem xk_b_96 : (Int8.ofInt 96).toInt32 = 96 := by decide
theorem xk_b_97 : (Int8.ofInt 97).toInt32 = 97 := by decide
theorem xk_b_98 : (Int8.ofInt 98).toInt32 = 98 := by decide
theorem xk_b_99 : (Int8.ofInt 99).toInt32 = 99 := by decide
theorem xk_b_100 : (Int8.ofInt 100).toInt32 = 100 := by decide
theorem xk_b_126 : (Int8.ofInt 126).toInt32 = 126 := by decide
theorem xk_b_127 : (Int8.ofInt 127).toInt32 = 127 := by decide
theorem xk_i_m1 : Int32.ofInt (-1) = (-1) := by decide
theorem xk_i_0 : Int32.ofInt 0 = 0 := by decide
theorem xk_i_1 : Int32.ofInt 1 = 1 := by decide
theorem xk_i_2 : Int32.ofInt 2 = 2 := by decide
theorem xk_i_3 : Int32.ofInt 3 = 3 := by decide
theorem xk_i_4 : Int32.ofInt 4 = 4 := by decide
theorem xk_i_5 : Int32.ofInt 5 = 5 := by decide
theorem xk_s_m1004 : (Int16.ofInt (-1004)).toInt32 = (-1004) := by decide
theorem xk_s_m1003 : (Int16.ofInt (-1003)).toInt32 = (-1003) := by decide
theorem xk_s_m1002 : (Int16.ofInt (-1002)).toInt32 = (-1002) := by decide
theorem xk_s_m1001 : (Int16.ofInt (-1001)).toInt32 = (-1001) := by decide
theorem xk_s_m1000 : (Int16.ofInt (-1000)).toInt32 = (-1000) := by decide
theorem xk_s_500 : (Int16.ofInt 500).toInt32 = 500 := by decide
theorem xk_s_882 : (Int16.ofInt 882).toInt32 = 882 := by decide
theorem xk_s_980 : (Int16.ofInt 980).toInt32 = 980 := by decide
theorem xk_s_1000 : (Int16.ofInt 1000).toInt32 = 1000 := by decide
theorem xk_s_1001 : (Int16.ofInt 1001).toInt32 = 1001 := by decide
theorem xk_s_2001 : (Int16.ofInt 2001).toInt32 = 2001 := by decide
theorem xk_l_0 : Int64.ofNat ((0 : Fin 2) : Nat) = 0 := by decide
theorem xk_l_1 : Int64.ofNat ((1 : Fin 2) : Nat) = 1 := by decide
theorem pnJ13 : plainName RJ13 = true := by decide +kernel
theorem pnJ6 : plainName RJ6 = true := by decide +kernel
theorem pnX0 : plainName RX0 = true := by decide +kernel
theorem pnX1 : plainName RX1 = true := by decide +kernel
theorem pnX2 : plainName RX2 = true := by decide +kernel
theorem pnX3 : plainName RX3 = true := by decide +kernel
theorem pnX4 : plainName RX4 = true := by decide +kernel
theorem pnX5 : plainName RX5 = true := by decide +kernel
theorem pnX6 : plainName RX6 = true := by decide +kernel
theorem pnX7 : plainName RX7 = true := by decide +kernel
theorem pnX8 : plainName RX8 = true := by decide +kernel
theorem pnX9 : plainName RX9 = true := by decide +kernel
theorem uwX0 : ∀ w ∈ u_ws RX0 TX0 5, w ∈ tblG := by
  intro w hw
  refine List.mem_filter.mpr ⟨?_, ?_⟩
  · revert w; decide +kernel
  · revert w; decide +kernel
theorem uwX1 : ∀ w ∈ u_ws RX1 TX1 4, w ∈ tblG := by
  intro w hw
  refine List.mem_filter.mpr ⟨?_, ?_⟩
  · revert w; decide +kernel
  · revert w; decide +kernel
theorem uwX2 : ∀ w ∈ u_ws RX2 TX2 2, w ∈ tblG := by
  intro w hw
  refine List.mem_filter.mpr ⟨?_, ?_⟩
  · revert w; decide +kernel
  · revert w; decide +kernel
theorem uwX3 : ∀ w ∈ u_ws RX3 TX3 3, w ∈ tblG := by
  intro w hw
  refine List.mem_filter.mpr ⟨?_, ?_⟩
  · revert w; decide +kernel
  · revert w; decide +kernel
theorem uwX4 : ∀ w ∈ u_ws RX4 TX4 4, w ∈ tblG := by
  intro w hw
  refine List.mem_filter.mpr ⟨?_, ?_⟩
  · revert w; decide +kernel
  · revert w; decide +kernel
theorem uwX5 : ∀ w ∈ u_ws RX5 TX5 4, w ∈ tblG := by
  intro w hw
  refine List.mem_filter.mpr ⟨?_, ?_⟩
  · revert w; decide +kernel
  · revert w; decide +kernel
theorem uwX6 : ∀ w ∈ u_ws RX6 TX6 7, w ∈ tblG := by
  intro w hw
  refine List.mem_filter.mpr ⟨?_, ?_⟩
  · revert w; decide +kernel
  · revert w; decide +kernel
theorem uwX7 : ∀ w ∈ u_ws RX7 TX7 5, w ∈ tblG := by
  intro w hw
  refine List.mem_filter.mpr ⟨?_, ?_⟩
  · revert w; decide +kernel
  · revert w; decide +kernel
theorem uwX8 : ∀ w ∈ u_ws RX8 TX8 5, w ∈ tblG := by
  intro w hw
  refine List.mem_filter.mpr ⟨?_, ?_⟩
  · revert w; decide +kernel
  · revert w; decide +kernel
theorem uwX9 : ∀ w ∈ u_ws RX9 TX9 17, w ∈ tblG := by
  intro w hw
  refine List.mem_filter.mpr ⟨?_, ?_⟩
  · revert w; decide +kernel
  · revert w; decide +kernel
theorem fl_X0_9 : XF RX0 9 0 0 (.array .int) true := ⟨RX0, TX0, 5, tyX0, rfl, by decide, uwX0, tyX0_ok, nmX0, rfl, rfl, rfl, inG 255 (by decide +kernel) rfl⟩
theorem fl_X0_15 : XF RX0 15 0 1 (.array .int) true := ⟨RX0, TX0, 5, tyX0, rfl, by decide, uwX0, tyX0_ok, nmX0, rfl, rfl, rfl, inG 256 (by decide +kernel) rfl⟩
theorem fl_X0_18 : XF RX0 18 0 2 .int false := ⟨RX0, TX0, 5, tyX0, rfl, by decide, uwX0, tyX0_ok, nmX0, rfl, rfl, rfl, inG 257 (by decide +kernel) rfl⟩
theorem fl_X0_22 : XF RX0 22 4 3 .int false := ⟨RX4, TX4, 4, tyX4, rfl, by decide, uwX4, tyX4_ok, nmX4, rfl, rfl, rfl, inG 151 (by decide +kernel) rfl⟩
theorem fl_X0_27 : XF RX0 27 0 3 .int false := ⟨RX0, TX0, 5, tyX0, rfl, by decide, uwX0, tyX0_ok, nmX0, rfl, rfl, rfl, inG 258 (by decide +kernel) rfl⟩
theorem fl_X0_28 : XF RX0 28 0 4 .long false := ⟨RX0, TX0, 5, tyX0, rfl, by decide, uwX0, tyX0_ok, nmX0, rfl, rfl, rfl, inG 259 (by decide +kernel) rfl⟩
theorem fl_X1_9 : XF RX1 9 1 0 .int false := ⟨RX1, TX1, 4, tyX1, rfl, by decide, uwX1, tyX1_ok, nmX1, rfl, rfl, rfl, inG 168 (by decide +kernel) rfl⟩
theorem fl_X1_15 : XF RX1 15 1 1 .int false := ⟨RX1, TX1, 4, tyX1, rfl, by decide, uwX1, tyX1_ok, nmX1, rfl, rfl, rfl, inG 170 (by decide +kernel) rfl⟩
theorem fl_X1_18 : XF RX1 18 1 2 .int false := ⟨RX1, TX1, 4, tyX1, rfl, by decide, uwX1, tyX1_ok, nmX1, rfl, rfl, rfl, inG 172 (by decide +kernel) rfl⟩
theorem fl_X1_21 : XF RX1 21 1 3 .int false := ⟨RX1, TX1, 4, tyX1, rfl, by decide, uwX1, tyX1_ok, nmX1, rfl, rfl, rfl, inG 174 (by decide +kernel) rfl⟩
theorem fl_X2_9 : XF RX2 9 2 1 .int false := ⟨RX2, TX2, 2, tyX2, rfl, by decide, uwX2, tyX2_ok, nmX2, rfl, rfl, rfl, inG 130 (by decide +kernel) rfl⟩
theorem fl_X2_15 : XF RX2 15 2 0 .int false := ⟨RX2, TX2, 2, tyX2, rfl, by decide, uwX2, tyX2_ok, nmX2, rfl, rfl, rfl, inG 127 (by decide +kernel) rfl⟩
theorem fl_X3_11 : XF RX3 11 3 0 (.array (.object "FlashWheelReader$State")) true := ⟨RX3, TX3, 3, tyX3, rfl, by decide, uwX3, tyX3_ok, nmX3, rfl, rfl, rfl, inG 211 (by decide +kernel) rfl⟩
theorem fl_X3_18 : XF RX3 18 3 1 .int false := ⟨RX3, TX3, 3, tyX3, rfl, by decide, uwX3, tyX3_ok, nmX3, rfl, rfl, rfl, inG 212 (by decide +kernel) rfl⟩
theorem fl_X3_34 : XF RX3 34 3 2 .int false := ⟨RX3, TX3, 3, tyX3, rfl, by decide, uwX3, tyX3_ok, nmX3, rfl, rfl, rfl, inG 213 (by decide +kernel) rfl⟩
theorem fl_X4_9 : XF RX4 9 4 0 (.array .int) true := ⟨RX4, TX4, 4, tyX4, rfl, by decide, uwX4, tyX4_ok, nmX4, rfl, rfl, rfl, inG 144 (by decide +kernel) rfl⟩
theorem fl_X4_15 : XF RX4 15 4 1 (.array .int) true := ⟨RX4, TX4, 4, tyX4, rfl, by decide, uwX4, tyX4_ok, nmX4, rfl, rfl, rfl, inG 146 (by decide +kernel) rfl⟩
theorem fl_X4_18 : XF RX4 18 4 3 .int false := ⟨RX4, TX4, 4, tyX4, rfl, by decide, uwX4, tyX4_ok, nmX4, rfl, rfl, rfl, inG 150 (by decide +kernel) rfl⟩
theorem fl_X4_26 : XF RX4 26 4 2 .int false := ⟨RX4, TX4, 4, tyX4, rfl, by decide, uwX4, tyX4_ok, nmX4, rfl, rfl, rfl, inG 148 (by decide +kernel) rfl⟩
theorem fl_X5_10 : XF RX5 10 5 0 (.object "FlashWheelReader$Wheel") true := ⟨RX5, TX5, 4, tyX5, rfl, by decide, uwX5, tyX5_ok, nmX5, rfl, rfl, rfl, inG 185 (by decide +kernel) rfl⟩
theorem fl_X5_19 : XF RX5 19 5 1 (.object "FlashWheelReader$Flashes") true := ⟨RX5, TX5, 4, tyX5, rfl, by decide, uwX5, tyX5_ok, nmX5, rfl, rfl, rfl, inG 187 (by decide +kernel) rfl⟩
theorem fl_X5_26 : XF RX5 26 5 2 (.object "FlashWheelReader$Readings") true := ⟨RX5, TX5, 4, tyX5, rfl, by decide, uwX5, tyX5_ok, nmX5, rfl, rfl, rfl, inG 189 (by decide +kernel) rfl⟩
theorem fl_X5_33 : XF RX5 33 5 3 (.object "FlashWheelReader$Disc") true := ⟨RX5, TX5, 4, tyX5, rfl, by decide, uwX5, tyX5_ok, nmX5, rfl, rfl, rfl, inG 191 (by decide +kernel) rfl⟩
theorem fl_X5_74 : XF RX5 74 2 0 .int false := ⟨RX2, TX2, 2, tyX2, rfl, by decide, uwX2, tyX2_ok, nmX2, rfl, rfl, rfl, inG 128 (by decide +kernel) rfl⟩
theorem fl_X5_78 : XF RX5 78 2 1 .int false := ⟨RX2, TX2, 2, tyX2, rfl, by decide, uwX2, tyX2_ok, nmX2, rfl, rfl, rfl, inG 131 (by decide +kernel) rfl⟩
theorem fl_X6_9 : XF RX6 9 6 0 (.array .int) true := ⟨RX6, TX6, 7, tyX6, rfl, by decide, uwX6, tyX6_ok, nmX6, rfl, rfl, rfl, inG 90 (by decide +kernel) rfl⟩
theorem fl_X6_15 : XF RX6 15 6 1 (.array .int) true := ⟨RX6, TX6, 7, tyX6, rfl, by decide, uwX6, tyX6_ok, nmX6, rfl, rfl, rfl, inG 92 (by decide +kernel) rfl⟩
theorem fl_X6_18 : XF RX6 18 6 2 (.array .int) true := ⟨RX6, TX6, 7, tyX6, rfl, by decide, uwX6, tyX6_ok, nmX6, rfl, rfl, rfl, inG 93 (by decide +kernel) rfl⟩
theorem fl_X6_21 : XF RX6 21 6 3 .int false := ⟨RX6, TX6, 7, tyX6, rfl, by decide, uwX6, tyX6_ok, nmX6, rfl, rfl, rfl, inG 94 (by decide +kernel) rfl⟩
theorem fl_X6_33 : XF RX6 33 6 4 .int false := ⟨RX6, TX6, 7, tyX6, rfl, by decide, uwX6, tyX6_ok, nmX6, rfl, rfl, rfl, inG 97 (by decide +kernel) rfl⟩
theorem fl_X6_36 : XF RX6 36 6 5 .int false := ⟨RX6, TX6, 7, tyX6, rfl, by decide, uwX6, tyX6_ok, nmX6, rfl, rfl, rfl, inG 100 (by decide +kernel) rfl⟩
theorem fl_X6_39 : XF RX6 39 6 6 .int false := ⟨RX6, TX6, 7, tyX6, rfl, by decide, uwX6, tyX6_ok, nmX6, rfl, rfl, rfl, inG 103 (by decide +kernel) rfl⟩
theorem fl_X7_9 : XF RX7 9 7 0 (.array .int) true := ⟨RX7, TX7, 5, tyX7, rfl, by decide, uwX7, tyX7_ok, nmX7, rfl, rfl, rfl, inG 228 (by decide +kernel) rfl⟩
theorem fl_X7_15 : XF RX7 15 7 3 .int false := ⟨RX7, TX7, 5, tyX7, rfl, by decide, uwX7, tyX7_ok, nmX7, rfl, rfl, rfl, inG 232 (by decide +kernel) rfl⟩
theorem fl_X7_19 : XF RX7 19 7 2 .int false := ⟨RX7, TX7, 5, tyX7, rfl, by decide, uwX7, tyX7_ok, nmX7, rfl, rfl, rfl, inG 230 (by decide +kernel) rfl⟩
theorem fl_X7_26 : XF RX7 26 7 1 .int false := ⟨RX7, TX7, 5, tyX7, rfl, by decide, uwX7, tyX7_ok, nmX7, rfl, rfl, rfl, inG 229 (by decide +kernel) rfl⟩
theorem fl_X7_46 : XF RX7 46 6 4 .int false := ⟨RX6, TX6, 7, tyX6, rfl, by decide, uwX6, tyX6_ok, nmX6, rfl, rfl, rfl, inG 98 (by decide +kernel) rfl⟩
theorem fl_X7_53 : XF RX7 53 6 5 .int false := ⟨RX6, TX6, 7, tyX6, rfl, by decide, uwX6, tyX6_ok, nmX6, rfl, rfl, rfl, inG 101 (by decide +kernel) rfl⟩
theorem fl_X7_60 : XF RX7 60 6 3 .int false := ⟨RX6, TX6, 7, tyX6, rfl, by decide, uwX6, tyX6_ok, nmX6, rfl, rfl, rfl, inG 95 (by decide +kernel) rfl⟩
theorem fl_X7_80 : XF RX7 80 7 4 .int false := ⟨RX7, TX7, 5, tyX7, rfl, by decide, uwX7, tyX7_ok, nmX7, rfl, rfl, rfl, inG 235 (by decide +kernel) rfl⟩
theorem fl_X8_10 : XF RX8 10 8 0 (.object "FlashWheelReader$State") true := ⟨RX8, TX8, 5, tyX8, rfl, by decide, uwX8, tyX8_ok, nmX8, rfl, rfl, rfl, inG 271 (by decide +kernel) rfl⟩
theorem fl_X8_19 : XF RX8 19 8 1 (.object "FlashWheelReader$History") true := ⟨RX8, TX8, 5, tyX8, rfl, by decide, uwX8, tyX8_ok, nmX8, rfl, rfl, rfl, inG 272 (by decide +kernel) rfl⟩
theorem fl_X8_26 : XF RX8 26 8 2 (.object "FlashWheelReader$WheelText") true := ⟨RX8, TX8, 5, tyX8, rfl, by decide, uwX8, tyX8_ok, nmX8, rfl, rfl, rfl, inG 273 (by decide +kernel) rfl⟩
theorem fl_X8_33 : XF RX8 33 8 3 (.object "FlashWheelReader$Wheel") true := ⟨RX8, TX8, 5, tyX8, rfl, by decide, uwX8, tyX8_ok, nmX8, rfl, rfl, rfl, inG 274 (by decide +kernel) rfl⟩
theorem fl_X8_40 : XF RX8 40 8 4 (.object "FlashWheelReader$Candidates") true := ⟨RX8, TX8, 5, tyX8, rfl, by decide, uwX8, tyX8_ok, nmX8, rfl, rfl, rfl, inG 275 (by decide +kernel) rfl⟩
theorem fl_X8_48 : XF RX8 48 7 2 .int false := ⟨RX7, TX7, 5, tyX7, rfl, by decide, uwX7, tyX7_ok, nmX7, rfl, rfl, rfl, inG 231 (by decide +kernel) rfl⟩
theorem fl_X8_60 : XF RX8 60 7 4 .int false := ⟨RX7, TX7, 5, tyX7, rfl, by decide, uwX7, tyX7_ok, nmX7, rfl, rfl, rfl, inG 234 (by decide +kernel) rfl⟩
theorem fl_X8_67 : XF RX8 67 5 0 (.object "FlashWheelReader$Wheel") true := ⟨RX5, TX5, 4, tyX5, rfl, by decide, uwX5, tyX5_ok, nmX5, rfl, rfl, rfl, inG 186 (by decide +kernel) rfl⟩
theorem fl_X8_74 : XF RX8 74 6 3 .int false := ⟨RX6, TX6, 7, tyX6, rfl, by decide, uwX6, tyX6_ok, nmX6, rfl, rfl, rfl, inG 96 (by decide +kernel) rfl⟩
theorem fl_X8_77 : XF RX8 77 7 3 .int false := ⟨RX7, TX7, 5, tyX7, rfl, by decide, uwX7, tyX7_ok, nmX7, rfl, rfl, rfl, inG 233 (by decide +kernel) rfl⟩
theorem fl_X8_88 : XF RX8 88 6 0 (.array .int) true := ⟨RX6, TX6, 7, tyX6, rfl, by decide, uwX6, tyX6_ok, nmX6, rfl, rfl, rfl, inG 91 (by decide +kernel) rfl⟩
theorem fl_X8_96 : XF RX8 96 6 4 .int false := ⟨RX6, TX6, 7, tyX6, rfl, by decide, uwX6, tyX6_ok, nmX6, rfl, rfl, rfl, inG 99 (by decide +kernel) rfl⟩
theorem fl_X8_109 : XF RX8 109 6 6 .int false := ⟨RX6, TX6, 7, tyX6, rfl, by decide, uwX6, tyX6_ok, nmX6, rfl, rfl, rfl, inG 104 (by decide +kernel) rfl⟩
theorem fl_X8_125 : XF RX8 125 5 1 (.object "FlashWheelReader$Flashes") true := ⟨RX5, TX5, 4, tyX5, rfl, by decide, uwX5, tyX5_ok, nmX5, rfl, rfl, rfl, inG 188 (by decide +kernel) rfl⟩
theorem fl_X8_129 : XF RX8 129 2 0 .int false := ⟨RX2, TX2, 2, tyX2, rfl, by decide, uwX2, tyX2_ok, nmX2, rfl, rfl, rfl, inG 129 (by decide +kernel) rfl⟩
theorem fl_X8_134 : XF RX8 134 2 1 .int false := ⟨RX2, TX2, 2, tyX2, rfl, by decide, uwX2, tyX2_ok, nmX2, rfl, rfl, rfl, inG 132 (by decide +kernel) rfl⟩
theorem fl_X8_169 : XF RX8 169 6 5 .int false := ⟨RX6, TX6, 7, tyX6, rfl, by decide, uwX6, tyX6_ok, nmX6, rfl, rfl, rfl, inG 102 (by decide +kernel) rfl⟩
theorem fl_X8_181 : XF RX8 181 5 2 (.object "FlashWheelReader$Readings") true := ⟨RX5, TX5, 4, tyX5, rfl, by decide, uwX5, tyX5_ok, nmX5, rfl, rfl, rfl, inG 190 (by decide +kernel) rfl⟩
theorem fl_X8_190 : XF RX8 190 4 2 .int false := ⟨RX4, TX4, 4, tyX4, rfl, by decide, uwX4, tyX4_ok, nmX4, rfl, rfl, rfl, inG 149 (by decide +kernel) rfl⟩
theorem fl_X8_193 : XF RX8 193 4 0 (.array .int) true := ⟨RX4, TX4, 4, tyX4, rfl, by decide, uwX4, tyX4_ok, nmX4, rfl, rfl, rfl, inG 145 (by decide +kernel) rfl⟩
theorem fl_X8_200 : XF RX8 200 4 1 (.array .int) true := ⟨RX4, TX4, 4, tyX4, rfl, by decide, uwX4, tyX4_ok, nmX4, rfl, rfl, rfl, inG 147 (by decide +kernel) rfl⟩
theorem fl_X8_208 : XF RX8 208 4 3 .int false := ⟨RX4, TX4, 4, tyX4, rfl, by decide, uwX4, tyX4_ok, nmX4, rfl, rfl, rfl, inG 152 (by decide +kernel) rfl⟩
theorem fl_X8_226 : XF RX8 226 5 3 (.object "FlashWheelReader$Disc") true := ⟨RX5, TX5, 4, tyX5, rfl, by decide, uwX5, tyX5_ok, nmX5, rfl, rfl, rfl, inG 192 (by decide +kernel) rfl⟩
theorem fl_X8_230 : XF RX8 230 1 0 .int false := ⟨RX1, TX1, 4, tyX1, rfl, by decide, uwX1, tyX1_ok, nmX1, rfl, rfl, rfl, inG 169 (by decide +kernel) rfl⟩
theorem fl_X8_233 : XF RX8 233 1 1 .int false := ⟨RX1, TX1, 4, tyX1, rfl, by decide, uwX1, tyX1_ok, nmX1, rfl, rfl, rfl, inG 171 (by decide +kernel) rfl⟩
theorem fl_X8_241 : XF RX8 241 1 3 .int false := ⟨RX1, TX1, 4, tyX1, rfl, by decide, uwX1, tyX1_ok, nmX1, rfl, rfl, rfl, inG 175 (by decide +kernel) rfl⟩
theorem fl_X8_242 : XF RX8 242 1 2 .int false := ⟨RX1, TX1, 4, tyX1, rfl, by decide, uwX1, tyX1_ok, nmX1, rfl, rfl, rfl, inG 173 (by decide +kernel) rfl⟩
theorem fl_X8_267 : XF RX8 267 3 2 .int false := ⟨RX3, TX3, 3, tyX3, rfl, by decide, uwX3, tyX3_ok, nmX3, rfl, rfl, rfl, inG 214 (by decide +kernel) rfl⟩
theorem fl_X9_7 : XF RX9 7 9 0 (.array .int) true := ⟨RX9, TX9, 17, tyX9, rfl, by decide, uwX9, tyX9_ok, nmX9, rfl, rfl, rfl, inG 764 (by decide +kernel) rfl⟩
theorem fl_X9_13 : XF RX9 13 9 2 (.array .int) true := ⟨RX9, TX9, 17, tyX9, rfl, by decide, uwX9, tyX9_ok, nmX9, rfl, rfl, rfl, inG 766 (by decide +kernel) rfl⟩
theorem fl_X9_16 : XF RX9 16 9 4 (.array .int) true := ⟨RX9, TX9, 17, tyX9, rfl, by decide, uwX9, tyX9_ok, nmX9, rfl, rfl, rfl, inG 768 (by decide +kernel) rfl⟩
theorem fl_X9_19 : XF RX9 19 9 10 (.array .boolean) true := ⟨RX9, TX9, 17, tyX9, rfl, by decide, uwX9, tyX9_ok, nmX9, rfl, rfl, rfl, inG 774 (by decide +kernel) rfl⟩
theorem fl_X9_23 : XF RX9 23 9 11 (.array .int) true := ⟨RX9, TX9, 17, tyX9, rfl, by decide, uwX9, tyX9_ok, nmX9, rfl, rfl, rfl, inG 775 (by decide +kernel) rfl⟩
theorem fl_X9_26 : XF RX9 26 9 13 (.array .int) true := ⟨RX9, TX9, 17, tyX9, rfl, by decide, uwX9, tyX9_ok, nmX9, rfl, rfl, rfl, inG 777 (by decide +kernel) rfl⟩
theorem fl_X9_29 : XF RX9 29 9 1 .int false := ⟨RX9, TX9, 17, tyX9, rfl, by decide, uwX9, tyX9_ok, nmX9, rfl, rfl, rfl, inG 765 (by decide +kernel) rfl⟩
theorem fl_X9_44 : XF RX9 44 9 3 .int false := ⟨RX9, TX9, 17, tyX9, rfl, by decide, uwX9, tyX9_ok, nmX9, rfl, rfl, rfl, inG 767 (by decide +kernel) rfl⟩
theorem fl_X9_62 : XF RX9 62 9 5 .int false := ⟨RX9, TX9, 17, tyX9, rfl, by decide, uwX9, tyX9_ok, nmX9, rfl, rfl, rfl, inG 769 (by decide +kernel) rfl⟩
theorem fl_X9_65 : XF RX9 65 9 8 .int false := ⟨RX9, TX9, 17, tyX9, rfl, by decide, uwX9, tyX9_ok, nmX9, rfl, rfl, rfl, inG 772 (by decide +kernel) rfl⟩
theorem fl_X9_71 : XF RX9 71 9 6 .int false := ⟨RX9, TX9, 17, tyX9, rfl, by decide, uwX9, tyX9_ok, nmX9, rfl, rfl, rfl, inG 770 (by decide +kernel) rfl⟩
theorem fl_X9_74 : XF RX9 74 9 7 .int false := ⟨RX9, TX9, 17, tyX9, rfl, by decide, uwX9, tyX9_ok, nmX9, rfl, rfl, rfl, inG 771 (by decide +kernel) rfl⟩
theorem fl_X9_77 : XF RX9 77 9 9 .int false := ⟨RX9, TX9, 17, tyX9, rfl, by decide, uwX9, tyX9_ok, nmX9, rfl, rfl, rfl, inG 773 (by decide +kernel) rfl⟩
theorem fl_X9_153 : XF RX9 153 9 12 .int false := ⟨RX9, TX9, 17, tyX9, rfl, by decide, uwX9, tyX9_ok, nmX9, rfl, rfl, rfl, inG 776 (by decide +kernel) rfl⟩
theorem fl_X9_169 : XF RX9 169 9 14 .int false := ⟨RX9, TX9, 17, tyX9, rfl, by decide, uwX9, tyX9_ok, nmX9, rfl, rfl, rfl, inG 778 (by decide +kernel) rfl⟩
theorem fl_X9_172 : XF RX9 172 9 15 .int false := ⟨RX9, TX9, 17, tyX9, rfl, by decide, uwX9, tyX9_ok, nmX9, rfl, rfl, rfl, inG 779 (by decide +kernel) rfl⟩
theorem fl_X9_192 : XF RX9 192 9 16 .long false := ⟨RX9, TX9, 17, tyX9, rfl, by decide, uwX9, tyX9_ok, nmX9, rfl, rfl, rfl, inG 780 (by decide +kernel) rfl⟩
theorem dd_J13_bitCount_95d88 : XD yJ13_bitCount_95d88 cJ13_bitCount_95d88 2 (some .int) 1 := ⟨inG 523 (by decide +kernel) rfl, inG 64 (by decide +kernel) rfl, by decide +kernel, by decide +kernel, by decide +kernel⟩
theorem ds_J13_bitCount_95d88 : Cond.static yJ13_bitCount_95d88 ∈ tblG := inG 522 (by decide +kernel) rfl
theorem dd_J6_bitCount_0f7a4 : XD yJ6_bitCount_0f7a4 cJ6_bitCount_0f7a4 1 (some .int) 1 := ⟨inG 652 (by decide +kernel) rfl, inG 66 (by decide +kernel) rfl, by decide +kernel, by decide +kernel, by decide +kernel⟩
theorem ds_J6_bitCount_0f7a4 : Cond.static yJ6_bitCount_0f7a4 ∈ tblG := inG 651 (by decide +kernel) rfl
theorem dd_J9_abs_0f7a4 : XD yJ9_abs_0f7a4 cJ9_abs_0f7a4 1 (some .int) 1 := ⟨inG 623 (by decide +kernel) rfl, inG 65 (by decide +kernel) rfl, by decide +kernel, by decide +kernel, by decide +kernel⟩
theorem ds_J9_abs_0f7a4 : Cond.static yJ9_abs_0f7a4 ∈ tblG := inG 622 (by decide +kernel) rfl
theorem dd_J9_max_7cf53 : XD yJ9_max_7cf53 cJ9_max_7cf53 2 (some .int) 2 := ⟨inG 645 (by decide +kernel) rfl, inG 65 (by decide +kernel) rfl, by decide +kernel, by decide +kernel, by decide +kernel⟩
theorem ds_J9_max_7cf53 : Cond.static yJ9_max_7cf53 ∈ tblG := inG 644 (by decide +kernel) rfl
theorem dd_X0_countByRemainder : XD yX0_countByRemainder cX0_countByRemainder 3 none 0 := ⟨inG 636 (by decide +kernel) rfl, inG 62 (by decide +kernel) rfl, by decide +kernel, by decide +kernel, by decide +kernel⟩
theorem dv_X0_countByRemainder : XDV yX0_countByRemainder 0 := ⟨inG 634 (by decide +kernel) rfl, inG 635 (by decide +kernel) rfl, ⟨TX0, 5, rfl⟩⟩
theorem dd_X0_find : XD yX0_find cX0_find 5 none 3 := ⟨inG 579 (by decide +kernel) rfl, inG 62 (by decide +kernel) rfl, by decide +kernel, by decide +kernel, by decide +kernel⟩
theorem dv_X0_find : XDV yX0_find 0 := ⟨inG 577 (by decide +kernel) rfl, inG 578 (by decide +kernel) rfl, ⟨TX0, 5, rfl⟩⟩
theorem dd_X0_has : XD yX0_has cX0_has 2 (some .boolean) 1 := ⟨inG 592 (by decide +kernel) rfl, inG 62 (by decide +kernel) rfl, by decide +kernel, by decide +kernel, by decide +kernel⟩
theorem dv_X0_has : XDV yX0_has 0 := ⟨inG 590 (by decide +kernel) rfl, inG 591 (by decide +kernel) rfl, ⟨TX0, 5, rfl⟩⟩
theorem dd_X0_inOrder : XD yX0_inOrder cX0_inOrder 4 (some .int) 1 := ⟨inG 612 (by decide +kernel) rfl, inG 62 (by decide +kernel) rfl, by decide +kernel, by decide +kernel, by decide +kernel⟩
theorem dv_X0_inOrder : XDV yX0_inOrder 0 := ⟨inG 610 (by decide +kernel) rfl, inG 611 (by decide +kernel) rfl, ⟨TX0, 5, rfl⟩⟩
theorem dd_X0_init : XD yX0_init cX0_init 1 none 0 := ⟨inG 253 (by decide +kernel) rfl, inG 62 (by decide +kernel) rfl, by decide +kernel, by decide +kernel, by decide +kernel⟩
theorem di_X0_init : Cond.instanceMethod yX0_init ∈ tblG := inG 252 (by decide +kernel) rfl
theorem dd_X0_nearestTo : XD yX0_nearestTo cX0_nearestTo 6 (some .int) 1 := ⟨inG 620 (by decide +kernel) rfl, inG 62 (by decide +kernel) rfl, by decide +kernel, by decide +kernel, by decide +kernel⟩
theorem dv_X0_nearestTo : XDV yX0_nearestTo 0 := ⟨inG 618 (by decide +kernel) rfl, inG 619 (by decide +kernel) rfl, ⟨TX0, 5, rfl⟩⟩
theorem dd_X0_number : XD yX0_number cX0_number 3 (some .int) 0 := ⟨inG 588 (by decide +kernel) rfl, inG 62 (by decide +kernel) rfl, by decide +kernel, by decide +kernel, by decide +kernel⟩
theorem dv_X0_number : XDV yX0_number 0 := ⟨inG 586 (by decide +kernel) rfl, inG 587 (by decide +kernel) rfl, ⟨TX0, 5, rfl⟩⟩
theorem dd_X0_restOf : XD yX0_restOf cX0_restOf 5 (some .int) 1 := ⟨inG 642 (by decide +kernel) rfl, inG 62 (by decide +kernel) rfl, by decide +kernel, by decide +kernel, by decide +kernel⟩
theorem dv_X0_restOf : XDV yX0_restOf 0 := ⟨inG 640 (by decide +kernel) rfl, inG 641 (by decide +kernel) rfl, ⟨TX0, 5, rfl⟩⟩
theorem dd_X1_copyFrom : XD yX1_copyFrom cX1_copyFrom 2 none 1 := ⟨inG 384 (by decide +kernel) rfl, inG 59 (by decide +kernel) rfl, by decide +kernel, by decide +kernel, by decide +kernel⟩
theorem dv_X1_copyFrom : XDV yX1_copyFrom 1 := ⟨inG 382 (by decide +kernel) rfl, inG 383 (by decide +kernel) rfl, ⟨TX1, 4, rfl⟩⟩
theorem dd_X1_firstTickOf : XD yX1_firstTickOf cX1_firstTickOf 4 (some .int) 1 := ⟨inG 677 (by decide +kernel) rfl, inG 59 (by decide +kernel) rfl, by decide +kernel, by decide +kernel, by decide +kernel⟩
theorem dv_X1_firstTickOf : XDV yX1_firstTickOf 1 := ⟨inG 675 (by decide +kernel) rfl, inG 676 (by decide +kernel) rfl, ⟨TX1, 4, rfl⟩⟩
theorem dd_X1_init : XD yX1_init cX1_init 1 none 0 := ⟨inG 166 (by decide +kernel) rfl, inG 59 (by decide +kernel) rfl, by decide +kernel, by decide +kernel, by decide +kernel⟩
theorem di_X1_init : Cond.instanceMethod yX1_init ∈ tblG := inG 165 (by decide +kernel) rfl
theorem dd_X1_isOpenAt : XD yX1_isOpenAt cX1_isOpenAt 2 (some .boolean) 1 := ⟨inG 667 (by decide +kernel) rfl, inG 59 (by decide +kernel) rfl, by decide +kernel, by decide +kernel, by decide +kernel⟩
theorem dv_X1_isOpenAt : XDV yX1_isOpenAt 1 := ⟨inG 665 (by decide +kernel) rfl, inG 666 (by decide +kernel) rfl, ⟨TX1, 4, rfl⟩⟩
theorem dd_X1_openings : XD yX1_openings cX1_openings 3 (some .int) 0 := ⟨inG 730 (by decide +kernel) rfl, inG 59 (by decide +kernel) rfl, by decide +kernel, by decide +kernel, by decide +kernel⟩
theorem dv_X1_openings : XDV yX1_openings 1 := ⟨inG 728 (by decide +kernel) rfl, inG 729 (by decide +kernel) rfl, ⟨TX1, 4, rfl⟩⟩
theorem dd_X1_opensAt : XD yX1_opensAt cX1_opensAt 2 (some .boolean) 1 := ⟨inG 681 (by decide +kernel) rfl, inG 59 (by decide +kernel) rfl, by decide +kernel, by decide +kernel, by decide +kernel⟩
theorem dv_X1_opensAt : XDV yX1_opensAt 1 := ⟨inG 679 (by decide +kernel) rfl, inG 680 (by decide +kernel) rfl, ⟨TX1, 4, rfl⟩⟩
theorem dd_X1_ticksFrom : XD yX1_ticksFrom cX1_ticksFrom 3 (some .int) 1 := ⟨inG 686 (by decide +kernel) rfl, inG 59 (by decide +kernel) rfl, by decide +kernel, by decide +kernel, by decide +kernel⟩
theorem dv_X1_ticksFrom : XDV yX1_ticksFrom 1 := ⟨inG 684 (by decide +kernel) rfl, inG 685 (by decide +kernel) rfl, ⟨TX1, 4, rfl⟩⟩
theorem dd_X2_copyFrom : XD yX2_copyFrom cX2_copyFrom 2 none 1 := ⟨inG 375 (by decide +kernel) rfl, inG 57 (by decide +kernel) rfl, by decide +kernel, by decide +kernel, by decide +kernel⟩
theorem dv_X2_copyFrom : XDV yX2_copyFrom 2 := ⟨inG 373 (by decide +kernel) rfl, inG 374 (by decide +kernel) rfl, ⟨TX2, 2, rfl⟩⟩
theorem dd_X2_init : XD yX2_init cX2_init 1 none 0 := ⟨inG 125 (by decide +kernel) rfl, inG 57 (by decide +kernel) rfl, by decide +kernel, by decide +kernel, by decide +kernel⟩
theorem di_X2_init : Cond.instanceMethod yX2_init ∈ tblG := inG 124 (by decide +kernel) rfl
theorem dd_X2_number : XD yX2_number cX2_number 1 (some .int) 0 := ⟨inG 467 (by decide +kernel) rfl, inG 57 (by decide +kernel) rfl, by decide +kernel, by decide +kernel, by decide +kernel⟩
theorem dv_X2_number : XDV yX2_number 2 := ⟨inG 465 (by decide +kernel) rfl, inG 466 (by decide +kernel) rfl, ⟨TX2, 2, rfl⟩⟩
theorem dd_X2_tickOf : XD yX2_tickOf cX2_tickOf 2 (some .int) 1 := ⟨inG 479 (by decide +kernel) rfl, inG 57 (by decide +kernel) rfl, by decide +kernel, by decide +kernel, by decide +kernel⟩
theorem dv_X2_tickOf : XDV yX2_tickOf 2 := ⟨inG 477 (by decide +kernel) rfl, inG 478 (by decide +kernel) rfl, ⟨TX2, 2, rfl⟩⟩
theorem dd_X3_init : XD yX3_init cX3_init 2 none 0 := ⟨inG 206 (by decide +kernel) rfl, inG 60 (by decide +kernel) rfl, by decide +kernel, by decide +kernel, by decide +kernel⟩
theorem di_X3_init : Cond.instanceMethod yX3_init ∈ tblG := inG 205 (by decide +kernel) rfl
theorem dd_X3_remember : XD yX3_remember cX3_remember 3 none 1 := ⟨inG 356 (by decide +kernel) rfl, inG 60 (by decide +kernel) rfl, by decide +kernel, by decide +kernel, by decide +kernel⟩
theorem dv_X3_remember : XDV yX3_remember 3 := ⟨inG 354 (by decide +kernel) rfl, inG 355 (by decide +kernel) rfl, ⟨TX3, 3, rfl⟩⟩
theorem dd_X3_restore : XD yX3_restore cX3_restore 4 none 1 := ⟨inG 718 (by decide +kernel) rfl, inG 60 (by decide +kernel) rfl, by decide +kernel, by decide +kernel, by decide +kernel⟩
theorem dv_X3_restore : XDV yX3_restore 3 := ⟨inG 716 (by decide +kernel) rfl, inG 717 (by decide +kernel) rfl, ⟨TX3, 3, rfl⟩⟩
theorem dd_X3_slotAt : XD yX3_slotAt cX3_slotAt 2 (some (.object "FlashWheelReader$State")) 1 := ⟨inG 360 (by decide +kernel) rfl, inG 60 (by decide +kernel) rfl, by decide +kernel, by decide +kernel, by decide +kernel⟩
theorem dv_X3_slotAt : XDV yX3_slotAt 3 := ⟨inG 359 (by decide +kernel) rfl, inG 6 (by decide +kernel) rfl, ⟨TX3, 3, rfl⟩⟩
theorem dd_X4_add : XD yX4_add cX4_add 3 none 2 := ⟨inG 547 (by decide +kernel) rfl, inG 58 (by decide +kernel) rfl, by decide +kernel, by decide +kernel, by decide +kernel⟩
theorem dv_X4_add : XDV yX4_add 4 := ⟨inG 545 (by decide +kernel) rfl, inG 546 (by decide +kernel) rfl, ⟨TX4, 4, rfl⟩⟩
theorem dd_X4_allFit : XD yX4_allFit cX4_allFit 5 (some .boolean) 3 := ⟨inG 583 (by decide +kernel) rfl, inG 58 (by decide +kernel) rfl, by decide +kernel, by decide +kernel, by decide +kernel⟩
theorem dv_X4_allFit : XDV yX4_allFit 4 := ⟨inG 581 (by decide +kernel) rfl, inG 582 (by decide +kernel) rfl, ⟨TX4, 4, rfl⟩⟩
theorem dd_X4_copyFrom : XD yX4_copyFrom cX4_copyFrom 2 none 1 := ⟨inG 379 (by decide +kernel) rfl, inG 58 (by decide +kernel) rfl, by decide +kernel, by decide +kernel, by decide +kernel⟩
theorem dv_X4_copyFrom : XDV yX4_copyFrom 4 := ⟨inG 377 (by decide +kernel) rfl, inG 378 (by decide +kernel) rfl, ⟨TX4, 4, rfl⟩⟩
theorem dd_X4_init : XD yX4_init cX4_init 1 none 0 := ⟨inG 142 (by decide +kernel) rfl, inG 58 (by decide +kernel) rfl, by decide +kernel, by decide +kernel, by decide +kernel⟩
theorem di_X4_init : Cond.instanceMethod yX4_init ∈ tblG := inG 141 (by decide +kernel) rfl
theorem dd_X4_remove : XD yX4_remove cX4_remove 3 none 1 := ⟨inG 565 (by decide +kernel) rfl, inG 58 (by decide +kernel) rfl, by decide +kernel, by decide +kernel, by decide +kernel⟩
theorem dv_X4_remove : XDV yX4_remove 4 := ⟨inG 563 (by decide +kernel) rfl, inG 564 (by decide +kernel) rfl, ⟨TX4, 4, rfl⟩⟩
theorem dd_X5_copyFrom : XD yX5_copyFrom cX5_copyFrom 2 none 1 := ⟨inG 364 (by decide +kernel) rfl, inG 55 (by decide +kernel) rfl, by decide +kernel, by decide +kernel, by decide +kernel⟩
theorem dv_X5_copyFrom : XDV yX5_copyFrom 5 := ⟨inG 362 (by decide +kernel) rfl, inG 363 (by decide +kernel) rfl, ⟨TX5, 4, rfl⟩⟩
theorem dd_X5_countSeeming : XD yX5_countSeeming cX5_countSeeming 8 (some .int) 1 := ⟨inG 530 (by decide +kernel) rfl, inG 55 (by decide +kernel) rfl, by decide +kernel, by decide +kernel, by decide +kernel⟩
theorem dv_X5_countSeeming : XDV yX5_countSeeming 5 := ⟨inG 528 (by decide +kernel) rfl, inG 529 (by decide +kernel) rfl, ⟨TX5, 4, rfl⟩⟩
theorem dd_X5_differentPictures : XD yX5_differentPictures cX5_differentPictures 1 (some .int) 0 := ⟨inG 515 (by decide +kernel) rfl, inG 55 (by decide +kernel) rfl, by decide +kernel, by decide +kernel, by decide +kernel⟩
theorem dv_X5_differentPictures : XDV yX5_differentPictures 5 := ⟨inG 513 (by decide +kernel) rfl, inG 514 (by decide +kernel) rfl, ⟨TX5, 4, rfl⟩⟩
theorem dd_X5_earliestAlike : XD yX5_earliestAlike cX5_earliestAlike 5 (some .int) 1 := ⟨inG 502 (by decide +kernel) rfl, inG 55 (by decide +kernel) rfl, by decide +kernel, by decide +kernel, by decide +kernel⟩
theorem dv_X5_earliestAlike : XDV yX5_earliestAlike 5 := ⟨inG 500 (by decide +kernel) rfl, inG 501 (by decide +kernel) rfl, ⟨TX5, 4, rfl⟩⟩
theorem dd_X5_init : XD yX5_init cX5_init 1 none 0 := ⟨inG 79 (by decide +kernel) rfl, inG 55 (by decide +kernel) rfl, by decide +kernel, by decide +kernel, by decide +kernel⟩
theorem di_X5_init : Cond.instanceMethod yX5_init ∈ tblG := inG 78 (by decide +kernel) rfl
theorem dd_X6_addCell : XD yX6_addCell cX6_addCell 2 none 1 := ⟨inG 333 (by decide +kernel) rfl, inG 56 (by decide +kernel) rfl, by decide +kernel, by decide +kernel, by decide +kernel⟩
theorem dv_X6_addCell : XDV yX6_addCell 6 := ⟨inG 331 (by decide +kernel) rfl, inG 332 (by decide +kernel) rfl, ⟨TX6, 7, rfl⟩⟩
theorem dd_X6_copyFrom : XD yX6_copyFrom cX6_copyFrom 2 none 1 := ⟨inG 368 (by decide +kernel) rfl, inG 56 (by decide +kernel) rfl, by decide +kernel, by decide +kernel, by decide +kernel⟩
theorem dv_X6_copyFrom : XDV yX6_copyFrom 6 := ⟨inG 366 (by decide +kernel) rfl, inG 367 (by decide +kernel) rfl, ⟨TX6, 7, rfl⟩⟩
theorem dd_X6_empty : XD yX6_empty cX6_empty 1 none 0 := ⟨inG 314 (by decide +kernel) rfl, inG 56 (by decide +kernel) rfl, by decide +kernel, by decide +kernel, by decide +kernel⟩
theorem dv_X6_empty : XDV yX6_empty 6 := ⟨inG 312 (by decide +kernel) rfl, inG 313 (by decide +kernel) rfl, ⟨TX6, 7, rfl⟩⟩
theorem dd_X6_hasChange : XD yX6_hasChange cX6_hasChange 3 (some .boolean) 1 := ⟨inG 425 (by decide +kernel) rfl, inG 56 (by decide +kernel) rfl, by decide +kernel, by decide +kernel, by decide +kernel⟩
theorem dv_X6_hasChange : XDV yX6_hasChange 6 := ⟨inG 423 (by decide +kernel) rfl, inG 424 (by decide +kernel) rfl, ⟨TX6, 7, rfl⟩⟩
theorem dd_X6_hasRoomFor : XD yX6_hasRoomFor cX6_hasRoomFor 2 (some .boolean) 1 := ⟨inG 421 (by decide +kernel) rfl, inG 56 (by decide +kernel) rfl, by decide +kernel, by decide +kernel, by decide +kernel⟩
theorem dv_X6_hasRoomFor : XDV yX6_hasRoomFor 6 := ⟨inG 419 (by decide +kernel) rfl, inG 420 (by decide +kernel) rfl, ⟨TX6, 7, rfl⟩⟩
theorem dd_X6_init : XD yX6_init cX6_init 2 none 0 := ⟨inG 85 (by decide +kernel) rfl, inG 56 (by decide +kernel) rfl, by decide +kernel, by decide +kernel, by decide +kernel⟩
theorem di_X6_init : Cond.instanceMethod yX6_init ∈ tblG := inG 84 (by decide +kernel) rfl
theorem dd_X6_insertChange : XD yX6_insertChange cX6_insertChange 4 none 1 := ⟨inG 437 (by decide +kernel) rfl, inG 56 (by decide +kernel) rfl, by decide +kernel, by decide +kernel, by decide +kernel⟩
theorem dv_X6_insertChange : XDV yX6_insertChange 6 := ⟨inG 435 (by decide +kernel) rfl, inG 436 (by decide +kernel) rfl, ⟨TX6, 7, rfl⟩⟩
theorem dd_X6_isSameTurnedBy : XD yX6_isSameTurnedBy cX6_isSameTurnedBy 3 (some .boolean) 1 := ⟨inG 493 (by decide +kernel) rfl, inG 56 (by decide +kernel) rfl, by decide +kernel, by decide +kernel, by decide +kernel⟩
theorem dv_X6_isSameTurnedBy : XDV yX6_isSameTurnedBy 6 := ⟨inG 491 (by decide +kernel) rfl, inG 492 (by decide +kernel) rfl, ⟨TX6, 7, rfl⟩⟩
theorem dd_X6_looksTheSame : XD yX6_looksTheSame cX6_looksTheSame 3 (some .boolean) 2 := ⟨inG 702 (by decide +kernel) rfl, inG 56 (by decide +kernel) rfl, by decide +kernel, by decide +kernel, by decide +kernel⟩
theorem dv_X6_looksTheSame : XDV yX6_looksTheSame 6 := ⟨inG 700 (by decide +kernel) rfl, inG 701 (by decide +kernel) rfl, ⟨TX6, 7, rfl⟩⟩
theorem dd_X6_markOf : XD yX6_markOf cX6_markOf 2 (some .int) 1 := ⟨inG 404 (by decide +kernel) rfl, inG 56 (by decide +kernel) rfl, by decide +kernel, by decide +kernel, by decide +kernel⟩
theorem dv_X6_markOf : XDV yX6_markOf 6 := ⟨inG 402 (by decide +kernel) rfl, inG 403 (by decide +kernel) rfl, ⟨TX6, 7, rfl⟩⟩
theorem dd_X6_markedCells : XD yX6_markedCells cX6_markedCells 3 (some .int) 0 := ⟨inG 726 (by decide +kernel) rfl, inG 56 (by decide +kernel) rfl, by decide +kernel, by decide +kernel, by decide +kernel⟩
theorem dv_X6_markedCells : XDV yX6_markedCells 6 := ⟨inG 724 (by decide +kernel) rfl, inG 725 (by decide +kernel) rfl, ⟨TX6, 7, rfl⟩⟩
theorem dd_X6_marksPassing : XD yX6_marksPassing cX6_marksPassing 6 (some .int) 2 := ⟨inG 695 (by decide +kernel) rfl, inG 56 (by decide +kernel) rfl, by decide +kernel, by decide +kernel, by decide +kernel⟩
theorem dv_X6_marksPassing : XDV yX6_marksPassing 6 := ⟨inG 693 (by decide +kernel) rfl, inG 694 (by decide +kernel) rfl, ⟨TX6, 7, rfl⟩⟩
theorem dd_X6_measure : XD yX6_measure cX6_measure 2 (some .int) 0 := ⟨inG 488 (by decide +kernel) rfl, inG 56 (by decide +kernel) rfl, by decide +kernel, by decide +kernel, by decide +kernel⟩
theorem dv_X6_measure : XDV yX6_measure 6 := ⟨inG 486 (by decide +kernel) rfl, inG 487 (by decide +kernel) rfl, ⟨TX6, 7, rfl⟩⟩
theorem dd_X6_placeOfChange : XD yX6_placeOfChange cX6_placeOfChange 3 (some .int) 1 := ⟨inG 429 (by decide +kernel) rfl, inG 56 (by decide +kernel) rfl, by decide +kernel, by decide +kernel, by decide +kernel⟩
theorem dv_X6_placeOfChange : XDV yX6_placeOfChange 6 := ⟨inG 427 (by decide +kernel) rfl, inG 428 (by decide +kernel) rfl, ⟨TX6, 7, rfl⟩⟩
theorem dd_X6_putSpeed : XD yX6_putSpeed cX6_putSpeed 3 none 2 := ⟨inG 433 (by decide +kernel) rfl, inG 56 (by decide +kernel) rfl, by decide +kernel, by decide +kernel, by decide +kernel⟩
theorem dv_X6_putSpeed : XDV yX6_putSpeed 6 := ⟨inG 431 (by decide +kernel) rfl, inG 432 (by decide +kernel) rfl, ⟨TX6, 7, rfl⟩⟩
theorem dd_X6_removeChange : XD yX6_removeChange cX6_removeChange 3 none 1 := ⟨inG 446 (by decide +kernel) rfl, inG 56 (by decide +kernel) rfl, by decide +kernel, by decide +kernel, by decide +kernel⟩
theorem dv_X6_removeChange : XDV yX6_removeChange 6 := ⟨inG 444 (by decide +kernel) rfl, inG 445 (by decide +kernel) rfl, ⟨TX6, 7, rfl⟩⟩
theorem dd_X6_smearedPlaces : XD yX6_smearedPlaces cX6_smearedPlaces 7 (some .int) 2 := ⟨inG 690 (by decide +kernel) rfl, inG 56 (by decide +kernel) rfl, by decide +kernel, by decide +kernel, by decide +kernel⟩
theorem dv_X6_smearedPlaces : XDV yX6_smearedPlaces 6 := ⟨inG 688 (by decide +kernel) rfl, inG 689 (by decide +kernel) rfl, ⟨TX6, 7, rfl⟩⟩
theorem dd_X6_stepBetween : XD yX6_stepBetween cX6_stepBetween 5 (some .int) 3 := ⟨inG 497 (by decide +kernel) rfl, inG 56 (by decide +kernel) rfl, by decide +kernel, by decide +kernel, by decide +kernel⟩
theorem dv_X6_stepBetween : XDV yX6_stepBetween 6 := ⟨inG 495 (by decide +kernel) rfl, inG 496 (by decide +kernel) rfl, ⟨TX6, 7, rfl⟩⟩
theorem dd_X6_turnAt : XD yX6_turnAt cX6_turnAt 6 (some .int) 1 := ⟨inG 454 (by decide +kernel) rfl, inG 56 (by decide +kernel) rfl, by decide +kernel, by decide +kernel, by decide +kernel⟩
theorem dv_X6_turnAt : XDV yX6_turnAt 6 := ⟨inG 452 (by decide +kernel) rfl, inG 453 (by decide +kernel) rfl, ⟨TX6, 7, rfl⟩⟩
theorem dd_X6_turnsModulo : XD yX6_turnsModulo cX6_turnsModulo 8 (some .long) 4 := ⟨inG 520 (by decide +kernel) rfl, inG 56 (by decide +kernel) rfl, by decide +kernel, by decide +kernel, by decide +kernel⟩
theorem dv_X6_turnsModulo : XDV yX6_turnsModulo 6 := ⟨inG 518 (by decide +kernel) rfl, inG 519 (by decide +kernel) rfl, ⟨TX6, 7, rfl⟩⟩
theorem dd_X7_append : XD yX7_append cX7_append 2 none 1 := ⟨inG 297 (by decide +kernel) rfl, inG 61 (by decide +kernel) rfl, by decide +kernel, by decide +kernel, by decide +kernel⟩
theorem dv_X7_append : XDV yX7_append 7 := ⟨inG 295 (by decide +kernel) rfl, inG 296 (by decide +kernel) rfl, ⟨TX7, 5, rfl⟩⟩
theorem dd_X7_code : XD yX7_code cX7_code 1 (some .int) 0 := ⟨inG 322 (by decide +kernel) rfl, inG 61 (by decide +kernel) rfl, by decide +kernel, by decide +kernel, by decide +kernel⟩
theorem dv_X7_code : XDV yX7_code 7 := ⟨inG 321 (by decide +kernel) rfl, inG 1 (by decide +kernel) rfl, ⟨TX7, 5, rfl⟩⟩
theorem dd_X7_init : XD yX7_init cX7_init 1 none 0 := ⟨inG 226 (by decide +kernel) rfl, inG 61 (by decide +kernel) rfl, by decide +kernel, by decide +kernel, by decide +kernel⟩
theorem di_X7_init : Cond.instanceMethod yX7_init ∈ tblG := inG 225 (by decide +kernel) rfl
theorem dd_X7_isCell : XD yX7_isCell cX7_isCell 1 (some .boolean) 1 := ⟨inG 328 (by decide +kernel) rfl, inG 61 (by decide +kernel) rfl, by decide +kernel, by decide +kernel, by decide +kernel⟩
theorem ds_X7_isCell : Cond.static yX7_isCell ∈ tblG := inG 327 (by decide +kernel) rfl
theorem dd_X7_isDigit : XD yX7_isDigit cX7_isDigit 1 (some .boolean) 1 := ⟨inG 348 (by decide +kernel) rfl, inG 61 (by decide +kernel) rfl, by decide +kernel, by decide +kernel, by decide +kernel⟩
theorem ds_X7_isDigit : Cond.static yX7_isDigit ∈ tblG := inG 347 (by decide +kernel) rfl
theorem dd_X7_readCells : XD yX7_readCells cX7_readCells 2 none 1 := ⟨inG 318 (by decide +kernel) rfl, inG 61 (by decide +kernel) rfl, by decide +kernel, by decide +kernel, by decide +kernel⟩
theorem dv_X7_readCells : XDV yX7_readCells 7 := ⟨inG 317 (by decide +kernel) rfl, inG 0 (by decide +kernel) rfl, ⟨TX7, 5, rfl⟩⟩
theorem dd_X7_readInto : XD yX7_readInto cX7_readInto 2 (some .boolean) 1 := ⟨inG 310 (by decide +kernel) rfl, inG 61 (by decide +kernel) rfl, by decide +kernel, by decide +kernel, by decide +kernel⟩
theorem dv_X7_readInto : XDV yX7_readInto 7 := ⟨inG 308 (by decide +kernel) rfl, inG 309 (by decide +kernel) rfl, ⟨TX7, 5, rfl⟩⟩
theorem dd_X7_readNumber : XD yX7_readNumber cX7_readNumber 5 (some .int) 2 := ⟨inG 345 (by decide +kernel) rfl, inG 61 (by decide +kernel) rfl, by decide +kernel, by decide +kernel, by decide +kernel⟩
theorem dv_X7_readNumber : XDV yX7_readNumber 7 := ⟨inG 344 (by decide +kernel) rfl, inG 4 (by decide +kernel) rfl, ⟨TX7, 5, rfl⟩⟩
theorem dd_X7_readSpeed : XD yX7_readSpeed cX7_readSpeed 1 (some .int) 0 := ⟨inG 352 (by decide +kernel) rfl, inG 61 (by decide +kernel) rfl, by decide +kernel, by decide +kernel, by decide +kernel⟩
theorem dv_X7_readSpeed : XDV yX7_readSpeed 7 := ⟨inG 351 (by decide +kernel) rfl, inG 5 (by decide +kernel) rfl, ⟨TX7, 5, rfl⟩⟩
theorem dd_X7_takes : XD yX7_takes cX7_takes 2 (some .boolean) 1 := ⟨inG 341 (by decide +kernel) rfl, inG 61 (by decide +kernel) rfl, by decide +kernel, by decide +kernel, by decide +kernel⟩
theorem dv_X7_takes : XDV yX7_takes 7 := ⟨inG 340 (by decide +kernel) rfl, inG 3 (by decide +kernel) rfl, ⟨TX7, 5, rfl⟩⟩
theorem dd_X7_tellFault : XD yX7_tellFault cX7_tellFault 3 none 2 := ⟨inG 337 (by decide +kernel) rfl, inG 61 (by decide +kernel) rfl, by decide +kernel, by decide +kernel, by decide +kernel⟩
theorem dv_X7_tellFault : XDV yX7_tellFault 7 := ⟨inG 336 (by decide +kernel) rfl, inG 2 (by decide +kernel) rfl, ⟨TX7, 5, rfl⟩⟩
theorem dd_X8_addReading : XD yX8_addReading cX8_addReading 3 (some .int) 2 := ⟨inG 543 (by decide +kernel) rfl, inG 54 (by decide +kernel) rfl, by decide +kernel, by decide +kernel, by decide +kernel⟩
theorem dv_X8_addReading : XDV yX8_addReading 8 := ⟨inG 542 (by decide +kernel) rfl, inG 9 (by decide +kernel) rfl, ⟨TX8, 5, rfl⟩⟩
theorem dd_X8_at : XD yX8_at cX8_at 2 (some .int) 2 := ⟨inG 325 (by decide +kernel) rfl, inG 54 (by decide +kernel) rfl, by decide +kernel, by decide +kernel, by decide +kernel⟩
theorem ds_X8_at : Cond.static yX8_at ∈ tblG := inG 324 (by decide +kernel) rfl
theorem dd_X8_bestPeriod : XD yX8_bestPeriod cX8_bestPeriod 8 (some .int) 2 := ⟨inG 632 (by decide +kernel) rfl, inG 54 (by decide +kernel) rfl, by decide +kernel, by decide +kernel, by decide +kernel⟩
theorem dv_X8_bestPeriod : XDV yX8_bestPeriod 8 := ⟨inG 630 (by decide +kernel) rfl, inG 631 (by decide +kernel) rfl, ⟨TX8, 5, rfl⟩⟩
theorem dd_X8_candidate : XD yX8_candidate cX8_candidate 2 (some .int) 1 := ⟨inG 608 (by decide +kernel) rfl, inG 54 (by decide +kernel) rfl, by decide +kernel, by decide +kernel, by decide +kernel⟩
theorem dv_X8_candidate : XDV yX8_candidate 8 := ⟨inG 606 (by decide +kernel) rfl, inG 607 (by decide +kernel) rfl, ⟨TX8, 5, rfl⟩⟩
theorem dd_X8_candidates : XD yX8_candidates cX8_candidates 1 (some .int) 0 := ⟨inG 604 (by decide +kernel) rfl, inG 54 (by decide +kernel) rfl, by decide +kernel, by decide +kernel, by decide +kernel⟩
theorem dv_X8_candidates : XDV yX8_candidates 8 := ⟨inG 602 (by decide +kernel) rfl, inG 603 (by decide +kernel) rfl, ⟨TX8, 5, rfl⟩⟩
theorem dd_X8_clearText : XD yX8_clearText cX8_clearText 2 (some .int) 0 := ⟨inG 302 (by decide +kernel) rfl, inG 54 (by decide +kernel) rfl, by decide +kernel, by decide +kernel, by decide +kernel⟩
theorem dv_X8_clearText : XDV yX8_clearText 8 := ⟨inG 300 (by decide +kernel) rfl, inG 301 (by decide +kernel) rfl, ⟨TX8, 5, rfl⟩⟩
theorem dd_X8_copyRow : XD yX8_copyRow cX8_copyRow 3 none 2 := ⟨inG 371 (by decide +kernel) rfl, inG 54 (by decide +kernel) rfl, by decide +kernel, by decide +kernel, by decide +kernel⟩
theorem ds_X8_copyRow : Cond.static yX8_copyRow ∈ tblG := inG 370 (by decide +kernel) rfl
theorem dd_X8_count : XD yX8_count cX8_count 2 (some .int) 1 := ⟨inG 722 (by decide +kernel) rfl, inG 54 (by decide +kernel) rfl, by decide +kernel, by decide +kernel, by decide +kernel⟩
theorem dv_X8_count : XDV yX8_count 8 := ⟨inG 720 (by decide +kernel) rfl, inG 721 (by decide +kernel) rfl, ⟨TX8, 5, rfl⟩⟩
theorem dd_X8_digest : XD yX8_digest cX8_digest 4 (some .long) 0 := ⟨inG 734 (by decide +kernel) rfl, inG 54 (by decide +kernel) rfl, by decide +kernel, by decide +kernel, by decide +kernel⟩
theorem dv_X8_digest : XDV yX8_digest 8 := ⟨inG 732 (by decide +kernel) rfl, inG 733 (by decide +kernel) rfl, ⟨TX8, 5, rfl⟩⟩
theorem dd_X8_digestOfOpenings : XD yX8_digestOfOpenings cX8_digestOfOpenings 7 (some .long) 1 := ⟨inG 755 (by decide +kernel) rfl, inG 54 (by decide +kernel) rfl, by decide +kernel, by decide +kernel, by decide +kernel⟩
theorem dv_X8_digestOfOpenings : XDV yX8_digestOfOpenings 8 := ⟨inG 754 (by decide +kernel) rfl, inG 14 (by decide +kernel) rfl, ⟨TX8, 5, rfl⟩⟩
theorem dd_X8_digestOfPictures : XD yX8_digestOfPictures cX8_digestOfPictures 7 (some .long) 1 := ⟨inG 741 (by decide +kernel) rfl, inG 54 (by decide +kernel) rfl, by decide +kernel, by decide +kernel, by decide +kernel⟩
theorem dv_X8_digestOfPictures : XDV yX8_digestOfPictures 8 := ⟨inG 740 (by decide +kernel) rfl, inG 12 (by decide +kernel) rfl, ⟨TX8, 5, rfl⟩⟩
theorem dd_X8_digestOfReadings : XD yX8_digestOfReadings cX8_digestOfReadings 7 (some .long) 1 := ⟨inG 747 (by decide +kernel) rfl, inG 54 (by decide +kernel) rfl, by decide +kernel, by decide +kernel, by decide +kernel⟩
theorem dv_X8_digestOfReadings : XDV yX8_digestOfReadings 8 := ⟨inG 746 (by decide +kernel) rfl, inG 13 (by decide +kernel) rfl, ⟨TX8, 5, rfl⟩⟩
theorem dd_X8_dropChange : XD yX8_dropChange cX8_dropChange 2 (some .int) 1 := ⟨inG 441 (by decide +kernel) rfl, inG 54 (by decide +kernel) rfl, by decide +kernel, by decide +kernel, by decide +kernel⟩
theorem dv_X8_dropChange : XDV yX8_dropChange 8 := ⟨inG 439 (by decide +kernel) rfl, inG 440 (by decide +kernel) rfl, ⟨TX8, 5, rfl⟩⟩
theorem dd_X8_dropReading : XD yX8_dropReading cX8_dropReading 2 (some .int) 1 := ⟨inG 557 (by decide +kernel) rfl, inG 54 (by decide +kernel) rfl, by decide +kernel, by decide +kernel, by decide +kernel⟩
theorem dv_X8_dropReading : XDV yX8_dropReading 8 := ⟨inG 555 (by decide +kernel) rfl, inG 556 (by decide +kernel) rfl, ⟨TX8, 5, rfl⟩⟩
theorem dd_X8_faultKind : XD yX8_faultKind cX8_faultKind 1 (some .int) 0 := ⟨inG 392 (by decide +kernel) rfl, inG 54 (by decide +kernel) rfl, by decide +kernel, by decide +kernel, by decide +kernel⟩
theorem dv_X8_faultKind : XDV yX8_faultKind 8 := ⟨inG 390 (by decide +kernel) rfl, inG 391 (by decide +kernel) rfl, ⟨TX8, 5, rfl⟩⟩
theorem dd_X8_findWithout : XD yX8_findWithout cX8_findWithout 2 (some (.object "FlashWheelReader$Candidates")) 1 := ⟨inG 575 (by decide +kernel) rfl, inG 54 (by decide +kernel) rfl, by decide +kernel, by decide +kernel, by decide +kernel⟩
theorem dv_X8_findWithout : XDV yX8_findWithout 8 := ⟨inG 574 (by decide +kernel) rfl, inG 11 (by decide +kernel) rfl, ⟨TX8, 5, rfl⟩⟩
theorem dd_X8_flash : XD yX8_flash cX8_flash 4 (some .int) 2 := ⟨inG 471 (by decide +kernel) rfl, inG 54 (by decide +kernel) rfl, by decide +kernel, by decide +kernel, by decide +kernel⟩
theorem dv_X8_flash : XDV yX8_flash 8 := ⟨inG 469 (by decide +kernel) rfl, inG 470 (by decide +kernel) rfl, ⟨TX8, 5, rfl⟩⟩
theorem dd_X8_hasBit : XD yX8_hasBit cX8_hasBit 3 (some .boolean) 2 := ⟨inG 596 (by decide +kernel) rfl, inG 54 (by decide +kernel) rfl, by decide +kernel, by decide +kernel, by decide +kernel⟩
theorem ds_X8_hasBit : Cond.static yX8_hasBit ∈ tblG := inG 595 (by decide +kernel) rfl
theorem dd_X8_init : XD yX8_init cX8_init 1 none 0 := ⟨inG 71 (by decide +kernel) rfl, inG 54 (by decide +kernel) rfl, by decide +kernel, by decide +kernel, by decide +kernel⟩
theorem di_X8_init : Cond.instanceMethod yX8_init ∈ tblG := inG 70 (by decide +kernel) rfl
theorem dd_X8_isFlash : XD yX8_isFlash cX8_isFlash 2 (some .boolean) 1 := ⟨inG 475 (by decide +kernel) rfl, inG 54 (by decide +kernel) rfl, by decide +kernel, by decide +kernel, by decide +kernel⟩
theorem dv_X8_isFlash : XDV yX8_isFlash 8 := ⟨inG 474 (by decide +kernel) rfl, inG 8 (by decide +kernel) rfl, ⟨TX8, 5, rfl⟩⟩
theorem dd_X8_isPlace : XD yX8_isPlace cX8_isPlace 2 (some .boolean) 1 := ⟨inG 400 (by decide +kernel) rfl, inG 54 (by decide +kernel) rfl, by decide +kernel, by decide +kernel, by decide +kernel⟩
theorem dv_X8_isPlace : XDV yX8_isPlace 8 := ⟨inG 399 (by decide +kernel) rfl, inG 7 (by decide +kernel) rfl, ⟨TX8, 5, rfl⟩⟩
theorem dd_X8_isReading : XD yX8_isReading cX8_isReading 2 (some .boolean) 1 := ⟨inG 561 (by decide +kernel) rfl, inG 54 (by decide +kernel) rfl, by decide +kernel, by decide +kernel, by decide +kernel⟩
theorem dv_X8_isReading : XDV yX8_isReading 8 := ⟨inG 560 (by decide +kernel) rfl, inG 10 (by decide +kernel) rfl, ⟨TX8, 5, rfl⟩⟩
theorem dd_X8_isSeen : XD yX8_isSeen cX8_isSeen 2 (some .int) 1 := ⟨inG 663 (by decide +kernel) rfl, inG 54 (by decide +kernel) rfl, by decide +kernel, by decide +kernel, by decide +kernel⟩
theorem dv_X8_isSeen : XDV yX8_isSeen 8 := ⟨inG 661 (by decide +kernel) rfl, inG 662 (by decide +kernel) rfl, ⟨TX8, 5, rfl⟩⟩
theorem dd_X8_isTick : XD yX8_isTick cX8_isTick 1 (some .boolean) 1 := ⟨inG 417 (by decide +kernel) rfl, inG 54 (by decide +kernel) rfl, by decide +kernel, by decide +kernel, by decide +kernel⟩
theorem ds_X8_isTick : Cond.static yX8_isTick ∈ tblG := inG 416 (by decide +kernel) rfl
theorem dd_X8_load : XD yX8_load cX8_load 1 (some .int) 0 := ⟨inG 306 (by decide +kernel) rfl, inG 54 (by decide +kernel) rfl, by decide +kernel, by decide +kernel, by decide +kernel⟩
theorem dv_X8_load : XDV yX8_load 8 := ⟨inG 304 (by decide +kernel) rfl, inG 305 (by decide +kernel) rfl, ⟨TX8, 5, rfl⟩⟩
theorem dd_X8_look : XD yX8_look cX8_look 2 (some .int) 1 := ⟨inG 552 (by decide +kernel) rfl, inG 54 (by decide +kernel) rfl, by decide +kernel, by decide +kernel, by decide +kernel⟩
theorem dv_X8_look : XDV yX8_look 8 := ⟨inG 550 (by decide +kernel) rfl, inG 551 (by decide +kernel) rfl, ⟨TX8, 5, rfl⟩⟩
theorem dd_X8_markAt : XD yX8_markAt cX8_markAt 3 (some .int) 2 := ⟨inG 450 (by decide +kernel) rfl, inG 54 (by decide +kernel) rfl, by decide +kernel, by decide +kernel, by decide +kernel⟩
theorem dv_X8_markAt : XDV yX8_markAt 8 := ⟨inG 448 (by decide +kernel) rfl, inG 449 (by decide +kernel) rfl, ⟨TX8, 5, rfl⟩⟩
theorem dd_X8_mod : XD yX8_mod cX8_mod 3 (some .int) 2 := ⟨inG 387 (by decide +kernel) rfl, inG 54 (by decide +kernel) rfl, by decide +kernel, by decide +kernel, by decide +kernel⟩
theorem ds_X8_mod : Cond.static yX8_mod ∈ tblG := inG 386 (by decide +kernel) rfl
theorem dd_X8_nearest : XD yX8_nearest cX8_nearest 2 (some .int) 1 := ⟨inG 616 (by decide +kernel) rfl, inG 54 (by decide +kernel) rfl, by decide +kernel, by decide +kernel, by decide +kernel⟩
theorem dv_X8_nearest : XDV yX8_nearest 8 := ⟨inG 614 (by decide +kernel) rfl, inG 615 (by decide +kernel) rfl, ⟨TX8, 5, rfl⟩⟩
theorem dd_X8_odd : XD yX8_odd cX8_odd 2 (some .int) 0 := ⟨inG 627 (by decide +kernel) rfl, inG 54 (by decide +kernel) rfl, by decide +kernel, by decide +kernel, by decide +kernel⟩
theorem dv_X8_odd : XDV yX8_odd 8 := ⟨inG 625 (by decide +kernel) rfl, inG 626 (by decide +kernel) rfl, ⟨TX8, 5, rfl⟩⟩
theorem dd_X8_opening : XD yX8_opening cX8_opening 5 (some .int) 2 := ⟨inG 673 (by decide +kernel) rfl, inG 54 (by decide +kernel) rfl, by decide +kernel, by decide +kernel, by decide +kernel⟩
theorem dv_X8_opening : XDV yX8_opening 8 := ⟨inG 671 (by decide +kernel) rfl, inG 672 (by decide +kernel) rfl, ⟨TX8, 5, rfl⟩⟩
theorem dd_X8_put : XD yX8_put cX8_put 3 none 3 := ⟨inG 89 (by decide +kernel) rfl, inG 54 (by decide +kernel) rfl, by decide +kernel, by decide +kernel, by decide +kernel⟩
theorem ds_X8_put : Cond.static yX8_put ∈ tblG := inG 88 (by decide +kernel) rfl
theorem dd_X8_read : XD yX8_read cX8_read 3 (some .int) 2 := ⟨inG 539 (by decide +kernel) rfl, inG 54 (by decide +kernel) rfl, by decide +kernel, by decide +kernel, by decide +kernel⟩
theorem dv_X8_read : XDV yX8_read 8 := ⟨inG 537 (by decide +kernel) rfl, inG 538 (by decide +kernel) rfl, ⟨TX8, 5, rfl⟩⟩
theorem dd_X8_reading : XD yX8_reading cX8_reading 3 (some .int) 2 := ⟨inG 570 (by decide +kernel) rfl, inG 54 (by decide +kernel) rfl, by decide +kernel, by decide +kernel, by decide +kernel⟩
theorem dv_X8_reading : XDV yX8_reading 8 := ⟨inG 568 (by decide +kernel) rfl, inG 569 (by decide +kernel) rfl, ⟨TX8, 5, rfl⟩⟩
theorem dd_X8_seems : XD yX8_seems cX8_seems 2 (some .int) 1 := ⟨inG 511 (by decide +kernel) rfl, inG 54 (by decide +kernel) rfl, by decide +kernel, by decide +kernel, by decide +kernel⟩
theorem dv_X8_seems : XDV yX8_seems 8 := ⟨inG 509 (by decide +kernel) rfl, inG 510 (by decide +kernel) rfl, ⟨TX8, 5, rfl⟩⟩
theorem dd_X8_setDisc : XD yX8_setDisc cX8_setDisc 3 (some .int) 2 := ⟨inG 649 (by decide +kernel) rfl, inG 54 (by decide +kernel) rfl, by decide +kernel, by decide +kernel, by decide +kernel⟩
theorem dv_X8_setDisc : XDV yX8_setDisc 8 := ⟨inG 647 (by decide +kernel) rfl, inG 648 (by decide +kernel) rfl, ⟨TX8, 5, rfl⟩⟩
theorem dd_X8_setFlash : XD yX8_setFlash cX8_setFlash 3 (some .int) 2 := ⟨inG 463 (by decide +kernel) rfl, inG 54 (by decide +kernel) rfl, by decide +kernel, by decide +kernel, by decide +kernel⟩
theorem dv_X8_setFlash : XDV yX8_setFlash 8 := ⟨inG 461 (by decide +kernel) rfl, inG 462 (by decide +kernel) rfl, ⟨TX8, 5, rfl⟩⟩
theorem dd_X8_setLimit : XD yX8_setLimit cX8_setLimit 3 (some .int) 1 := ⟨inG 600 (by decide +kernel) rfl, inG 54 (by decide +kernel) rfl, by decide +kernel, by decide +kernel, by decide +kernel⟩
theorem dv_X8_setLimit : XDV yX8_setLimit 8 := ⟨inG 598 (by decide +kernel) rfl, inG 599 (by decide +kernel) rfl, ⟨TX8, 5, rfl⟩⟩
theorem dd_X8_setMark : XD yX8_setMark cX8_setMark 4 (some .int) 2 := ⟨inG 396 (by decide +kernel) rfl, inG 54 (by decide +kernel) rfl, by decide +kernel, by decide +kernel, by decide +kernel⟩
theorem dv_X8_setMark : XDV yX8_setMark 8 := ⟨inG 394 (by decide +kernel) rfl, inG 395 (by decide +kernel) rfl, ⟨TX8, 5, rfl⟩⟩
theorem dd_X8_setSpeed : XD yX8_setSpeed cX8_setSpeed 3 (some .int) 2 := ⟨inG 414 (by decide +kernel) rfl, inG 54 (by decide +kernel) rfl, by decide +kernel, by decide +kernel, by decide +kernel⟩
theorem dv_X8_setSpeed : XDV yX8_setSpeed 8 := ⟨inG 412 (by decide +kernel) rfl, inG 413 (by decide +kernel) rfl, ⟨TX8, 5, rfl⟩⟩
theorem dd_X8_setStart : XD yX8_setStart cX8_setStart 3 (some .int) 1 := ⟨inG 410 (by decide +kernel) rfl, inG 54 (by decide +kernel) rfl, by decide +kernel, by decide +kernel, by decide +kernel⟩
theorem dv_X8_setStart : XDV yX8_setStart 8 := ⟨inG 408 (by decide +kernel) rfl, inG 409 (by decide +kernel) rfl, ⟨TX8, 5, rfl⟩⟩
theorem dd_X8_smear : XD yX8_smear cX8_smear 6 (some .int) 2 := ⟨inG 708 (by decide +kernel) rfl, inG 54 (by decide +kernel) rfl, by decide +kernel, by decide +kernel, by decide +kernel⟩
theorem dv_X8_smear : XDV yX8_smear 8 := ⟨inG 706 (by decide +kernel) rfl, inG 707 (by decide +kernel) rfl, ⟨TX8, 5, rfl⟩⟩
theorem dd_X8_step : XD yX8_step cX8_step 3 (some .int) 2 := ⟨inG 484 (by decide +kernel) rfl, inG 54 (by decide +kernel) rfl, by decide +kernel, by decide +kernel, by decide +kernel⟩
theorem dv_X8_step : XDV yX8_step 8 := ⟨inG 482 (by decide +kernel) rfl, inG 483 (by decide +kernel) rfl, ⟨TX8, 5, rfl⟩⟩
theorem dd_X8_stillPeriod : XD yX8_stillPeriod cX8_stillPeriod 5 (some .int) 2 := ⟨inG 535 (by decide +kernel) rfl, inG 54 (by decide +kernel) rfl, by decide +kernel, by decide +kernel, by decide +kernel⟩
theorem dv_X8_stillPeriod : XDV yX8_stillPeriod 8 := ⟨inG 533 (by decide +kernel) rfl, inG 534 (by decide +kernel) rfl, ⟨TX8, 5, rfl⟩⟩
theorem dd_X8_turn : XD yX8_turn cX8_turn 2 (some .int) 1 := ⟨inG 459 (by decide +kernel) rfl, inG 54 (by decide +kernel) rfl, by decide +kernel, by decide +kernel, by decide +kernel⟩
theorem dv_X8_turn : XDV yX8_turn 8 := ⟨inG 457 (by decide +kernel) rfl, inG 458 (by decide +kernel) rfl, ⟨TX8, 5, rfl⟩⟩
theorem dd_X8_turnDisc : XD yX8_turnDisc cX8_turnDisc 4 (some .int) 2 := ⟨inG 659 (by decide +kernel) rfl, inG 54 (by decide +kernel) rfl, by decide +kernel, by decide +kernel, by decide +kernel⟩
theorem dv_X8_turnDisc : XDV yX8_turnDisc 8 := ⟨inG 657 (by decide +kernel) rfl, inG 658 (by decide +kernel) rfl, ⟨TX8, 5, rfl⟩⟩
theorem dd_X8_type : XD yX8_type cX8_type 2 (some .int) 1 := ⟨inG 290 (by decide +kernel) rfl, inG 54 (by decide +kernel) rfl, by decide +kernel, by decide +kernel, by decide +kernel⟩
theorem dv_X8_type : XDV yX8_type 8 := ⟨inG 288 (by decide +kernel) rfl, inG 289 (by decide +kernel) rfl, ⟨TX8, 5, rfl⟩⟩
theorem dd_X8_undo : XD yX8_undo cX8_undo 1 (some .int) 0 := ⟨inG 714 (by decide +kernel) rfl, inG 54 (by decide +kernel) rfl, by decide +kernel, by decide +kernel, by decide +kernel⟩
theorem dv_X8_undo : XDV yX8_undo 8 := ⟨inG 712 (by decide +kernel) rfl, inG 713 (by decide +kernel) rfl, ⟨TX8, 5, rfl⟩⟩
theorem dd_X8_within : XD yX8_within cX8_within 3 (some .boolean) 3 := ⟨inG 293 (by decide +kernel) rfl, inG 54 (by decide +kernel) rfl, by decide +kernel, by decide +kernel, by decide +kernel⟩
theorem ds_X8_within : Cond.static yX8_within ∈ tblG := inG 292 (by decide +kernel) rfl
theorem dd_X9_adds : XD yX9_adds cX9_adds 4 (some .int) 2 := ⟨inG 1001 (by decide +kernel) rfl, inG 63 (by decide +kernel) rfl, by decide +kernel, by decide +kernel, by decide +kernel⟩
theorem dv_X9_adds : XDV yX9_adds 9 := ⟨inG 1000 (by decide +kernel) rfl, inG 41 (by decide +kernel) rfl, ⟨TX9, 17, rfl⟩⟩
theorem dd_X9_apart : XD yX9_apart cX9_apart 2 (some .int) 2 := ⟨inG 1040 (by decide +kernel) rfl, inG 63 (by decide +kernel) rfl, by decide +kernel, by decide +kernel, by decide +kernel⟩
theorem ds_X9_apart : Cond.static yX9_apart ∈ tblG := inG 1039 (by decide +kernel) rfl
theorem dd_X9_becomes : XD yX9_becomes cX9_becomes 4 (some .int) 2 := ⟨inG 891 (by decide +kernel) rfl, inG 63 (by decide +kernel) rfl, by decide +kernel, by decide +kernel, by decide +kernel⟩
theorem dv_X9_becomes : XDV yX9_becomes 9 := ⟨inG 890 (by decide +kernel) rfl, inG 26 (by decide +kernel) rfl, ⟨TX9, 17, rfl⟩⟩
theorem dd_X9_bestPeriod : XD yX9_bestPeriod cX9_bestPeriod 9 (some .int) 2 := ⟨inG 1048 (by decide +kernel) rfl, inG 63 (by decide +kernel) rfl, by decide +kernel, by decide +kernel, by decide +kernel⟩
theorem dv_X9_bestPeriod : XDV yX9_bestPeriod 9 := ⟨inG 1046 (by decide +kernel) rfl, inG 1047 (by decide +kernel) rfl, ⟨TX9, 17, rfl⟩⟩
theorem dd_X9_candidate : XD yX9_candidate cX9_candidate 2 (some .int) 1 := ⟨inG 1033 (by decide +kernel) rfl, inG 63 (by decide +kernel) rfl, by decide +kernel, by decide +kernel, by decide +kernel⟩
theorem dv_X9_candidate : XDV yX9_candidate 9 := ⟨inG 1031 (by decide +kernel) rfl, inG 1032 (by decide +kernel) rfl, ⟨TX9, 17, rfl⟩⟩
theorem dd_X9_candidates : XD yX9_candidates cX9_candidates 1 (some .int) 0 := ⟨inG 1029 (by decide +kernel) rfl, inG 63 (by decide +kernel) rfl, by decide +kernel, by decide +kernel, by decide +kernel⟩
theorem dv_X9_candidates : XDV yX9_candidates 9 := ⟨inG 1027 (by decide +kernel) rfl, inG 1028 (by decide +kernel) rfl, ⟨TX9, 17, rfl⟩⟩
theorem dd_X9_cells : XD yX9_cells cX9_cells 1 (some .int) 0 := ⟨inG 875 (by decide +kernel) rfl, inG 63 (by decide +kernel) rfl, by decide +kernel, by decide +kernel, by decide +kernel⟩
theorem dv_X9_cells : XDV yX9_cells 9 := ⟨inG 874 (by decide +kernel) rfl, inG 24 (by decide +kernel) rfl, ⟨TX9, 17, rfl⟩⟩
theorem dd_X9_changeFrom : XD yX9_changeFrom cX9_changeFrom 3 (some .int) 1 := ⟨inG 910 (by decide +kernel) rfl, inG 63 (by decide +kernel) rfl, by decide +kernel, by decide +kernel, by decide +kernel⟩
theorem dv_X9_changeFrom : XDV yX9_changeFrom 9 := ⟨inG 909 (by decide +kernel) rfl, inG 28 (by decide +kernel) rfl, ⟨TX9, 17, rfl⟩⟩
theorem dd_X9_clearText : XD yX9_clearText cX9_clearText 2 (some .int) 0 := ⟨inG 835 (by decide +kernel) rfl, inG 63 (by decide +kernel) rfl, by decide +kernel, by decide +kernel, by decide +kernel⟩
theorem dv_X9_clearText : XDV yX9_clearText 9 := ⟨inG 833 (by decide +kernel) rfl, inG 834 (by decide +kernel) rfl, ⟨TX9, 17, rfl⟩⟩
theorem dd_X9_copies : XD yX9_copies cX9_copies 4 none 2 := ⟨inG 824 (by decide +kernel) rfl, inG 63 (by decide +kernel) rfl, by decide +kernel, by decide +kernel, by decide +kernel⟩
theorem dv_X9_copies : XDV yX9_copies 9 := ⟨inG 823 (by decide +kernel) rfl, inG 15 (by decide +kernel) rfl, ⟨TX9, 17, rfl⟩⟩
theorem dd_X9_count : XD yX9_count cX9_count 2 (some .int) 1 := ⟨inG 1096 (by decide +kernel) rfl, inG 63 (by decide +kernel) rfl, by decide +kernel, by decide +kernel, by decide +kernel⟩
theorem dv_X9_count : XDV yX9_count 9 := ⟨inG 1094 (by decide +kernel) rfl, inG 1095 (by decide +kernel) rfl, ⟨TX9, 17, rfl⟩⟩
theorem dd_X9_digest : XD yX9_digest cX9_digest 3 (some .long) 0 := ⟨inG 1104 (by decide +kernel) rfl, inG 63 (by decide +kernel) rfl, by decide +kernel, by decide +kernel, by decide +kernel⟩
theorem dv_X9_digest : XDV yX9_digest 9 := ⟨inG 1102 (by decide +kernel) rfl, inG 1103 (by decide +kernel) rfl, ⟨TX9, 17, rfl⟩⟩
theorem dd_X9_dropChange : XD yX9_dropChange cX9_dropChange 4 (some .int) 1 := ⟨inG 918 (by decide +kernel) rfl, inG 63 (by decide +kernel) rfl, by decide +kernel, by decide +kernel, by decide +kernel⟩
theorem dv_X9_dropChange : XDV yX9_dropChange 9 := ⟨inG 916 (by decide +kernel) rfl, inG 917 (by decide +kernel) rfl, ⟨TX9, 17, rfl⟩⟩
theorem dd_X9_dropReading : XD yX9_dropReading cX9_dropReading 3 (some .int) 1 := ⟨inG 1009 (by decide +kernel) rfl, inG 63 (by decide +kernel) rfl, by decide +kernel, by decide +kernel, by decide +kernel⟩
theorem dv_X9_dropReading : XDV yX9_dropReading 9 := ⟨inG 1007 (by decide +kernel) rfl, inG 1008 (by decide +kernel) rfl, ⟨TX9, 17, rfl⟩⟩
theorem dd_X9_earliest : XD yX9_earliest cX9_earliest 3 (some .int) 1 := ⟨inG 973 (by decide +kernel) rfl, inG 63 (by decide +kernel) rfl, by decide +kernel, by decide +kernel, by decide +kernel⟩
theorem dv_X9_earliest : XDV yX9_earliest 9 := ⟨inG 972 (by decide +kernel) rfl, inG 38 (by decide +kernel) rfl, ⟨TX9, 17, rfl⟩⟩
theorem dd_X9_fails : XD yX9_fails cX9_fails 3 (some .boolean) 2 := ⟨inG 851 (by decide +kernel) rfl, inG 63 (by decide +kernel) rfl, by decide +kernel, by decide +kernel, by decide +kernel⟩
theorem dv_X9_fails : XDV yX9_fails 9 := ⟨inG 850 (by decide +kernel) rfl, inG 18 (by decide +kernel) rfl, ⟨TX9, 17, rfl⟩⟩
theorem dd_X9_faultKind : XD yX9_faultKind cX9_faultKind 1 (some .int) 0 := ⟨inG 879 (by decide +kernel) rfl, inG 63 (by decide +kernel) rfl, by decide +kernel, by decide +kernel, by decide +kernel⟩
theorem dv_X9_faultKind : XDV yX9_faultKind 9 := ⟨inG 877 (by decide +kernel) rfl, inG 878 (by decide +kernel) rfl, ⟨TX9, 17, rfl⟩⟩
theorem dd_X9_finds : XD yX9_finds cX9_finds 6 none 1 := ⟨inG 1021 (by decide +kernel) rfl, inG 63 (by decide +kernel) rfl, by decide +kernel, by decide +kernel, by decide +kernel⟩
theorem dv_X9_finds : XDV yX9_finds 9 := ⟨inG 1020 (by decide +kernel) rfl, inG 43 (by decide +kernel) rfl, ⟨TX9, 17, rfl⟩⟩
theorem dd_X9_flash : XD yX9_flash cX9_flash 3 (some .int) 2 := ⟨inG 953 (by decide +kernel) rfl, inG 63 (by decide +kernel) rfl, by decide +kernel, by decide +kernel, by decide +kernel⟩
theorem dv_X9_flash : XDV yX9_flash 9 := ⟨inG 951 (by decide +kernel) rfl, inG 952 (by decide +kernel) rfl, ⟨TX9, 17, rfl⟩⟩
theorem dd_X9_flashes : XD yX9_flashes cX9_flashes 1 (some .int) 0 := ⟨inG 949 (by decide +kernel) rfl, inG 63 (by decide +kernel) rfl, by decide +kernel, by decide +kernel, by decide +kernel⟩
theorem dv_X9_flashes : XDV yX9_flashes 9 := ⟨inG 948 (by decide +kernel) rfl, inG 33 (by decide +kernel) rfl, ⟨TX9, 17, rfl⟩⟩
theorem dd_X9_goesTo : XD yX9_goesTo cX9_goesTo 6 (some .int) 1 := ⟨inG 1076 (by decide +kernel) rfl, inG 63 (by decide +kernel) rfl, by decide +kernel, by decide +kernel, by decide +kernel⟩
theorem dv_X9_goesTo : XDV yX9_goesTo 9 := ⟨inG 1075 (by decide +kernel) rfl, inG 46 (by decide +kernel) rfl, ⟨TX9, 17, rfl⟩⟩
theorem dd_X9_here : XD yX9_here cX9_here 1 (some .int) 0 := ⟨inG 847 (by decide +kernel) rfl, inG 63 (by decide +kernel) rfl, by decide +kernel, by decide +kernel, by decide +kernel⟩
theorem dv_X9_here : XDV yX9_here 9 := ⟨inG 846 (by decide +kernel) rfl, inG 17 (by decide +kernel) rfl, ⟨TX9, 17, rfl⟩⟩
theorem dd_X9_in : XD yX9_in cX9_in 3 (some .boolean) 3 := ⟨inG 831 (by decide +kernel) rfl, inG 63 (by decide +kernel) rfl, by decide +kernel, by decide +kernel, by decide +kernel⟩
theorem ds_X9_in : Cond.static yX9_in ∈ tblG := inG 830 (by decide +kernel) rfl
theorem dd_X9_init : XD yX9_init cX9_init 2 none 0 := ⟨inG 762 (by decide +kernel) rfl, inG 63 (by decide +kernel) rfl, by decide +kernel, by decide +kernel, by decide +kernel⟩
theorem di_X9_init : Cond.instanceMethod yX9_init ∈ tblG := inG 761 (by decide +kernel) rfl
theorem dd_X9_isCell : XD yX9_isCell cX9_isCell 2 (some .boolean) 1 := ⟨inG 887 (by decide +kernel) rfl, inG 63 (by decide +kernel) rfl, by decide +kernel, by decide +kernel, by decide +kernel⟩
theorem dv_X9_isCell : XDV yX9_isCell 9 := ⟨inG 886 (by decide +kernel) rfl, inG 25 (by decide +kernel) rfl, ⟨TX9, 17, rfl⟩⟩
theorem dd_X9_isChange : XD yX9_isChange cX9_isChange 3 (some .boolean) 1 := ⟨inG 906 (by decide +kernel) rfl, inG 63 (by decide +kernel) rfl, by decide +kernel, by decide +kernel, by decide +kernel⟩
theorem dv_X9_isChange : XDV yX9_isChange 9 := ⟨inG 905 (by decide +kernel) rfl, inG 27 (by decide +kernel) rfl, ⟨TX9, 17, rfl⟩⟩
theorem dd_X9_isDigit : XD yX9_isDigit cX9_isDigit 1 (some .boolean) 0 := ⟨inG 863 (by decide +kernel) rfl, inG 63 (by decide +kernel) rfl, by decide +kernel, by decide +kernel, by decide +kernel⟩
theorem dv_X9_isDigit : XDV yX9_isDigit 9 := ⟨inG 862 (by decide +kernel) rfl, inG 21 (by decide +kernel) rfl, ⟨TX9, 17, rfl⟩⟩
theorem dd_X9_isFlash : XD yX9_isFlash cX9_isFlash 2 (some .boolean) 1 := ⟨inG 957 (by decide +kernel) rfl, inG 63 (by decide +kernel) rfl, by decide +kernel, by decide +kernel, by decide +kernel⟩
theorem dv_X9_isFlash : XDV yX9_isFlash 9 := ⟨inG 956 (by decide +kernel) rfl, inG 34 (by decide +kernel) rfl, ⟨TX9, 17, rfl⟩⟩
theorem dd_X9_isOpen : XD yX9_isOpen cX9_isOpen 4 (some .boolean) 1 := ⟨inG 1068 (by decide +kernel) rfl, inG 63 (by decide +kernel) rfl, by decide +kernel, by decide +kernel, by decide +kernel⟩
theorem dv_X9_isOpen : XDV yX9_isOpen 9 := ⟨inG 1067 (by decide +kernel) rfl, inG 45 (by decide +kernel) rfl, ⟨TX9, 17, rfl⟩⟩
theorem dd_X9_isReading : XD yX9_isReading cX9_isReading 2 (some .boolean) 1 := ⟨inG 1013 (by decide +kernel) rfl, inG 63 (by decide +kernel) rfl, by decide +kernel, by decide +kernel, by decide +kernel⟩
theorem dv_X9_isReading : XDV yX9_isReading 9 := ⟨inG 1012 (by decide +kernel) rfl, inG 42 (by decide +kernel) rfl, ⟨TX9, 17, rfl⟩⟩
theorem dd_X9_isSamePicture : XD yX9_isSamePicture cX9_isSamePicture 3 (some .boolean) 2 := ⟨inG 977 (by decide +kernel) rfl, inG 63 (by decide +kernel) rfl, by decide +kernel, by decide +kernel, by decide +kernel⟩
theorem dv_X9_isSamePicture : XDV yX9_isSamePicture 9 := ⟨inG 976 (by decide +kernel) rfl, inG 39 (by decide +kernel) rfl, ⟨TX9, 17, rfl⟩⟩
theorem dd_X9_isSeen : XD yX9_isSeen cX9_isSeen 2 (some .int) 1 := ⟨inG 1064 (by decide +kernel) rfl, inG 63 (by decide +kernel) rfl, by decide +kernel, by decide +kernel, by decide +kernel⟩
theorem dv_X9_isSeen : XDV yX9_isSeen 9 := ⟨inG 1062 (by decide +kernel) rfl, inG 1063 (by decide +kernel) rfl, ⟨TX9, 17, rfl⟩⟩
theorem dd_X9_isStill : XD yX9_isStill cX9_isStill 4 (some .boolean) 0 := ⟨inG 1088 (by decide +kernel) rfl, inG 63 (by decide +kernel) rfl, by decide +kernel, by decide +kernel, by decide +kernel⟩
theorem dv_X9_isStill : XDV yX9_isStill 9 := ⟨inG 1087 (by decide +kernel) rfl, inG 49 (by decide +kernel) rfl, ⟨TX9, 17, rfl⟩⟩
theorem dd_X9_isTick : XD yX9_isTick cX9_isTick 1 (some .boolean) 1 := ⟨inG 902 (by decide +kernel) rfl, inG 63 (by decide +kernel) rfl, by decide +kernel, by decide +kernel, by decide +kernel⟩
theorem ds_X9_isTick : Cond.static yX9_isTick ∈ tblG := inG 901 (by decide +kernel) rfl
theorem dd_X9_laysTurns : XD yX9_laysTurns cX9_laysTurns 4 none 0 := ⟨inG 926 (by decide +kernel) rfl, inG 63 (by decide +kernel) rfl, by decide +kernel, by decide +kernel, by decide +kernel⟩
theorem dv_X9_laysTurns : XDV yX9_laysTurns 9 := ⟨inG 925 (by decide +kernel) rfl, inG 30 (by decide +kernel) rfl, ⟨TX9, 17, rfl⟩⟩
theorem dd_X9_load : XD yX9_load cX9_load 4 (some .int) 0 := ⟨inG 839 (by decide +kernel) rfl, inG 63 (by decide +kernel) rfl, by decide +kernel, by decide +kernel, by decide +kernel⟩
theorem dv_X9_load : XDV yX9_load 9 := ⟨inG 837 (by decide +kernel) rfl, inG 838 (by decide +kernel) rfl, ⟨TX9, 17, rfl⟩⟩
theorem dd_X9_look : XD yX9_look cX9_look 2 (some .int) 1 := ⟨inG 1005 (by decide +kernel) rfl, inG 63 (by decide +kernel) rfl, by decide +kernel, by decide +kernel, by decide +kernel⟩
theorem dv_X9_look : XDV yX9_look 9 := ⟨inG 1003 (by decide +kernel) rfl, inG 1004 (by decide +kernel) rfl, ⟨TX9, 17, rfl⟩⟩
theorem dd_X9_markAt : XD yX9_markAt cX9_markAt 3 (some .int) 2 := ⟨inG 922 (by decide +kernel) rfl, inG 63 (by decide +kernel) rfl, by decide +kernel, by decide +kernel, by decide +kernel⟩
theorem dv_X9_markAt : XDV yX9_markAt 9 := ⟨inG 920 (by decide +kernel) rfl, inG 921 (by decide +kernel) rfl, ⟨TX9, 17, rfl⟩⟩
theorem dd_X9_marks : XD yX9_marks cX9_marks 3 (some .int) 0 := ⟨inG 1100 (by decide +kernel) rfl, inG 63 (by decide +kernel) rfl, by decide +kernel, by decide +kernel, by decide +kernel⟩
theorem dv_X9_marks : XDV yX9_marks 9 := ⟨inG 1099 (by decide +kernel) rfl, inG 50 (by decide +kernel) rfl, ⟨TX9, 17, rfl⟩⟩
theorem dd_X9_measure : XD yX9_measure cX9_measure 4 (some .int) 0 := ⟨inG 930 (by decide +kernel) rfl, inG 63 (by decide +kernel) rfl, by decide +kernel, by decide +kernel, by decide +kernel⟩
theorem dv_X9_measure : XDV yX9_measure 9 := ⟨inG 929 (by decide +kernel) rfl, inG 31 (by decide +kernel) rfl, ⟨TX9, 17, rfl⟩⟩
theorem dd_X9_mixes : XD yX9_mixes cX9_mixes 2 none 1 := ⟨inG 1110 (by decide +kernel) rfl, inG 63 (by decide +kernel) rfl, by decide +kernel, by decide +kernel, by decide +kernel⟩
theorem dv_X9_mixes : XDV yX9_mixes 9 := ⟨inG 1109 (by decide +kernel) rfl, inG 51 (by decide +kernel) rfl, ⟨TX9, 17, rfl⟩⟩
theorem dd_X9_mixesReadings : XD yX9_mixesReadings cX9_mixesReadings 3 none 0 := ⟨inG 1118 (by decide +kernel) rfl, inG 63 (by decide +kernel) rfl, by decide +kernel, by decide +kernel, by decide +kernel⟩
theorem dv_X9_mixesReadings : XDV yX9_mixesReadings 9 := ⟨inG 1117 (by decide +kernel) rfl, inG 52 (by decide +kernel) rfl, ⟨TX9, 17, rfl⟩⟩
theorem dd_X9_modulo : XD yX9_modulo cX9_modulo 3 (some .int) 2 := ⟨inG 933 (by decide +kernel) rfl, inG 63 (by decide +kernel) rfl, by decide +kernel, by decide +kernel, by decide +kernel⟩
theorem ds_X9_modulo : Cond.static yX9_modulo ∈ tblG := inG 932 (by decide +kernel) rfl
theorem dd_X9_nearest : XD yX9_nearest cX9_nearest 7 (some .int) 1 := ⟨inG 1037 (by decide +kernel) rfl, inG 63 (by decide +kernel) rfl, by decide +kernel, by decide +kernel, by decide +kernel⟩
theorem dv_X9_nearest : XDV yX9_nearest 9 := ⟨inG 1035 (by decide +kernel) rfl, inG 1036 (by decide +kernel) rfl, ⟨TX9, 17, rfl⟩⟩
theorem dd_X9_odd : XD yX9_odd cX9_odd 2 (some .int) 0 := ⟨inG 1044 (by decide +kernel) rfl, inG 63 (by decide +kernel) rfl, by decide +kernel, by decide +kernel, by decide +kernel⟩
theorem dv_X9_odd : XDV yX9_odd 9 := ⟨inG 1042 (by decide +kernel) rfl, inG 1043 (by decide +kernel) rfl, ⟨TX9, 17, rfl⟩⟩
theorem dd_X9_opening : XD yX9_opening cX9_opening 3 (some .int) 2 := ⟨inG 1072 (by decide +kernel) rfl, inG 63 (by decide +kernel) rfl, by decide +kernel, by decide +kernel, by decide +kernel⟩
theorem dv_X9_opening : XDV yX9_opening 9 := ⟨inG 1070 (by decide +kernel) rfl, inG 1071 (by decide +kernel) rfl, ⟨TX9, 17, rfl⟩⟩
theorem dd_X9_pictures : XD yX9_pictures cX9_pictures 5 (some .int) 0 := ⟨inG 989 (by decide +kernel) rfl, inG 63 (by decide +kernel) rfl, by decide +kernel, by decide +kernel, by decide +kernel⟩
theorem dv_X9_pictures : XDV yX9_pictures 9 := ⟨inG 988 (by decide +kernel) rfl, inG 40 (by decide +kernel) rfl, ⟨TX9, 17, rfl⟩⟩
theorem dd_X9_read : XD yX9_read cX9_read 3 (some .int) 2 := ⟨inG 997 (by decide +kernel) rfl, inG 63 (by decide +kernel) rfl, by decide +kernel, by decide +kernel, by decide +kernel⟩
theorem dv_X9_read : XDV yX9_read 9 := ⟨inG 995 (by decide +kernel) rfl, inG 996 (by decide +kernel) rfl, ⟨TX9, 17, rfl⟩⟩
theorem dd_X9_reading : XD yX9_reading cX9_reading 3 (some .int) 2 := ⟨inG 1017 (by decide +kernel) rfl, inG 63 (by decide +kernel) rfl, by decide +kernel, by decide +kernel, by decide +kernel⟩
theorem dv_X9_reading : XDV yX9_reading 9 := ⟨inG 1015 (by decide +kernel) rfl, inG 1016 (by decide +kernel) rfl, ⟨TX9, 17, rfl⟩⟩
theorem dd_X9_readsCells : XD yX9_readsCells cX9_readsCells 2 (some .boolean) 0 := ⟨inG 843 (by decide +kernel) rfl, inG 63 (by decide +kernel) rfl, by decide +kernel, by decide +kernel, by decide +kernel⟩
theorem dv_X9_readsCells : XDV yX9_readsCells 9 := ⟨inG 842 (by decide +kernel) rfl, inG 16 (by decide +kernel) rfl, ⟨TX9, 17, rfl⟩⟩
theorem dd_X9_readsNumber : XD yX9_readsNumber cX9_readsNumber 6 (some .boolean) 4 := ⟨inG 859 (by decide +kernel) rfl, inG 63 (by decide +kernel) rfl, by decide +kernel, by decide +kernel, by decide +kernel⟩
theorem dv_X9_readsNumber : XDV yX9_readsNumber 9 := ⟨inG 858 (by decide +kernel) rfl, inG 20 (by decide +kernel) rfl, ⟨TX9, 17, rfl⟩⟩
theorem dd_X9_readsSpeed : XD yX9_readsSpeed cX9_readsSpeed 3 (some .boolean) 0 := ⟨inG 867 (by decide +kernel) rfl, inG 63 (by decide +kernel) rfl, by decide +kernel, by decide +kernel, by decide +kernel⟩
theorem dv_X9_readsSpeed : XDV yX9_readsSpeed 9 := ⟨inG 866 (by decide +kernel) rfl, inG 22 (by decide +kernel) rfl, ⟨TX9, 17, rfl⟩⟩
theorem dd_X9_readsStart : XD yX9_readsStart cX9_readsStart 2 (some .boolean) 0 := ⟨inG 855 (by decide +kernel) rfl, inG 63 (by decide +kernel) rfl, by decide +kernel, by decide +kernel, by decide +kernel⟩
theorem dv_X9_readsStart : XDV yX9_readsStart 9 := ⟨inG 854 (by decide +kernel) rfl, inG 19 (by decide +kernel) rfl, ⟨TX9, 17, rfl⟩⟩
theorem dd_X9_records : XD yX9_records cX9_records 2 none 0 := ⟨inG 871 (by decide +kernel) rfl, inG 63 (by decide +kernel) rfl, by decide +kernel, by decide +kernel, by decide +kernel⟩
theorem dv_X9_records : XDV yX9_records 9 := ⟨inG 870 (by decide +kernel) rfl, inG 23 (by decide +kernel) rfl, ⟨TX9, 17, rfl⟩⟩
theorem dd_X9_restOf : XD yX9_restOf cX9_restOf 6 (some .int) 2 := ⟨inG 1052 (by decide +kernel) rfl, inG 63 (by decide +kernel) rfl, by decide +kernel, by decide +kernel, by decide +kernel⟩
theorem dv_X9_restOf : XDV yX9_restOf 9 := ⟨inG 1051 (by decide +kernel) rfl, inG 44 (by decide +kernel) rfl, ⟨TX9, 17, rfl⟩⟩
theorem dd_X9_seems : XD yX9_seems cX9_seems 5 (some .int) 1 := ⟨inG 985 (by decide +kernel) rfl, inG 63 (by decide +kernel) rfl, by decide +kernel, by decide +kernel, by decide +kernel⟩
theorem dv_X9_seems : XDV yX9_seems 9 := ⟨inG 983 (by decide +kernel) rfl, inG 984 (by decide +kernel) rfl, ⟨TX9, 17, rfl⟩⟩
theorem dd_X9_seenAt : XD yX9_seenAt cX9_seenAt 3 (some .int) 2 := ⟨inG 937 (by decide +kernel) rfl, inG 63 (by decide +kernel) rfl, by decide +kernel, by decide +kernel, by decide +kernel⟩
theorem dv_X9_seenAt : XDV yX9_seenAt 9 := ⟨inG 936 (by decide +kernel) rfl, inG 32 (by decide +kernel) rfl, ⟨TX9, 17, rfl⟩⟩
theorem dd_X9_setDisc : XD yX9_setDisc cX9_setDisc 5 (some .int) 2 := ⟨inG 1056 (by decide +kernel) rfl, inG 63 (by decide +kernel) rfl, by decide +kernel, by decide +kernel, by decide +kernel⟩
theorem dv_X9_setDisc : XDV yX9_setDisc 9 := ⟨inG 1054 (by decide +kernel) rfl, inG 1055 (by decide +kernel) rfl, ⟨TX9, 17, rfl⟩⟩
theorem dd_X9_setFlash : XD yX9_setFlash cX9_setFlash 3 (some .int) 2 := ⟨inG 945 (by decide +kernel) rfl, inG 63 (by decide +kernel) rfl, by decide +kernel, by decide +kernel, by decide +kernel⟩
theorem dv_X9_setFlash : XDV yX9_setFlash 9 := ⟨inG 943 (by decide +kernel) rfl, inG 944 (by decide +kernel) rfl, ⟨TX9, 17, rfl⟩⟩
theorem dd_X9_setLimit : XD yX9_setLimit cX9_setLimit 2 (some .int) 1 := ⟨inG 1025 (by decide +kernel) rfl, inG 63 (by decide +kernel) rfl, by decide +kernel, by decide +kernel, by decide +kernel⟩
theorem dv_X9_setLimit : XDV yX9_setLimit 9 := ⟨inG 1023 (by decide +kernel) rfl, inG 1024 (by decide +kernel) rfl, ⟨TX9, 17, rfl⟩⟩
theorem dd_X9_setMark : XD yX9_setMark cX9_setMark 3 (some .int) 2 := ⟨inG 883 (by decide +kernel) rfl, inG 63 (by decide +kernel) rfl, by decide +kernel, by decide +kernel, by decide +kernel⟩
theorem dv_X9_setMark : XDV yX9_setMark 9 := ⟨inG 881 (by decide +kernel) rfl, inG 882 (by decide +kernel) rfl, ⟨TX9, 17, rfl⟩⟩
theorem dd_X9_setSpeed : XD yX9_setSpeed cX9_setSpeed 6 (some .int) 2 := ⟨inG 899 (by decide +kernel) rfl, inG 63 (by decide +kernel) rfl, by decide +kernel, by decide +kernel, by decide +kernel⟩
theorem dv_X9_setSpeed : XDV yX9_setSpeed 9 := ⟨inG 897 (by decide +kernel) rfl, inG 898 (by decide +kernel) rfl, ⟨TX9, 17, rfl⟩⟩
theorem dd_X9_setStart : XD yX9_setStart cX9_setStart 2 (some .int) 1 := ⟨inG 895 (by decide +kernel) rfl, inG 63 (by decide +kernel) rfl, by decide +kernel, by decide +kernel, by decide +kernel⟩
theorem dv_X9_setStart : XDV yX9_setStart 9 := ⟨inG 893 (by decide +kernel) rfl, inG 894 (by decide +kernel) rfl, ⟨TX9, 17, rfl⟩⟩
theorem dd_X9_smear : XD yX9_smear cX9_smear 3 (some .int) 2 := ⟨inG 1092 (by decide +kernel) rfl, inG 63 (by decide +kernel) rfl, by decide +kernel, by decide +kernel, by decide +kernel⟩
theorem dv_X9_smear : XDV yX9_smear 9 := ⟨inG 1090 (by decide +kernel) rfl, inG 1091 (by decide +kernel) rfl, ⟨TX9, 17, rfl⟩⟩
theorem dd_X9_smearAt : XD yX9_smearAt cX9_smearAt 5 (some .int) 1 := ⟨inG 1084 (by decide +kernel) rfl, inG 63 (by decide +kernel) rfl, by decide +kernel, by decide +kernel, by decide +kernel⟩
theorem dv_X9_smearAt : XDV yX9_smearAt 9 := ⟨inG 1083 (by decide +kernel) rfl, inG 48 (by decide +kernel) rfl, ⟨TX9, 17, rfl⟩⟩
theorem dd_X9_smeared : XD yX9_smeared cX9_smeared 4 (some .int) 0 := ⟨inG 1080 (by decide +kernel) rfl, inG 63 (by decide +kernel) rfl, by decide +kernel, by decide +kernel, by decide +kernel⟩
theorem dv_X9_smeared : XDV yX9_smeared 9 := ⟨inG 1079 (by decide +kernel) rfl, inG 47 (by decide +kernel) rfl, ⟨TX9, 17, rfl⟩⟩
theorem dd_X9_step : XD yX9_step cX9_step 3 (some .int) 2 := ⟨inG 981 (by decide +kernel) rfl, inG 63 (by decide +kernel) rfl, by decide +kernel, by decide +kernel, by decide +kernel⟩
theorem dv_X9_step : XDV yX9_step 9 := ⟨inG 979 (by decide +kernel) rfl, inG 980 (by decide +kernel) rfl, ⟨TX9, 17, rfl⟩⟩
theorem dd_X9_stepBehind : XD yX9_stepBehind cX9_stepBehind 2 (some .int) 1 := ⟨inG 965 (by decide +kernel) rfl, inG 63 (by decide +kernel) rfl, by decide +kernel, by decide +kernel, by decide +kernel⟩
theorem dv_X9_stepBehind : XDV yX9_stepBehind 9 := ⟨inG 964 (by decide +kernel) rfl, inG 36 (by decide +kernel) rfl, ⟨TX9, 17, rfl⟩⟩
theorem dd_X9_stepOf : XD yX9_stepOf cX9_stepOf 4 (some .int) 2 := ⟨inG 969 (by decide +kernel) rfl, inG 63 (by decide +kernel) rfl, by decide +kernel, by decide +kernel, by decide +kernel⟩
theorem dv_X9_stepOf : XDV yX9_stepOf 9 := ⟨inG 968 (by decide +kernel) rfl, inG 37 (by decide +kernel) rfl, ⟨TX9, 17, rfl⟩⟩
theorem dd_X9_stillPeriod : XD yX9_stillPeriod cX9_stillPeriod 5 (some .int) 2 := ⟨inG 993 (by decide +kernel) rfl, inG 63 (by decide +kernel) rfl, by decide +kernel, by decide +kernel, by decide +kernel⟩
theorem dv_X9_stillPeriod : XDV yX9_stillPeriod 9 := ⟨inG 991 (by decide +kernel) rfl, inG 992 (by decide +kernel) rfl, ⟨TX9, 17, rfl⟩⟩
theorem dd_X9_tickOf : XD yX9_tickOf cX9_tickOf 2 (some .int) 1 := ⟨inG 914 (by decide +kernel) rfl, inG 63 (by decide +kernel) rfl, by decide +kernel, by decide +kernel, by decide +kernel⟩
theorem dv_X9_tickOf : XDV yX9_tickOf 9 := ⟨inG 913 (by decide +kernel) rfl, inG 29 (by decide +kernel) rfl, ⟨TX9, 17, rfl⟩⟩
theorem dd_X9_tickOfFlash : XD yX9_tickOfFlash cX9_tickOfFlash 2 (some .int) 1 := ⟨inG 961 (by decide +kernel) rfl, inG 63 (by decide +kernel) rfl, by decide +kernel, by decide +kernel, by decide +kernel⟩
theorem dv_X9_tickOfFlash : XDV yX9_tickOfFlash 9 := ⟨inG 960 (by decide +kernel) rfl, inG 35 (by decide +kernel) rfl, ⟨TX9, 17, rfl⟩⟩
theorem dd_X9_turn : XD yX9_turn cX9_turn 2 (some .int) 1 := ⟨inG 941 (by decide +kernel) rfl, inG 63 (by decide +kernel) rfl, by decide +kernel, by decide +kernel, by decide +kernel⟩
theorem dv_X9_turn : XDV yX9_turn 9 := ⟨inG 939 (by decide +kernel) rfl, inG 940 (by decide +kernel) rfl, ⟨TX9, 17, rfl⟩⟩
theorem dd_X9_turnDisc : XD yX9_turnDisc cX9_turnDisc 4 (some .int) 2 := ⟨inG 1060 (by decide +kernel) rfl, inG 63 (by decide +kernel) rfl, by decide +kernel, by decide +kernel, by decide +kernel⟩
theorem dv_X9_turnDisc : XDV yX9_turnDisc 9 := ⟨inG 1058 (by decide +kernel) rfl, inG 1059 (by decide +kernel) rfl, ⟨TX9, 17, rfl⟩⟩
theorem dd_X9_type : XD yX9_type cX9_type 2 (some .int) 1 := ⟨inG 828 (by decide +kernel) rfl, inG 63 (by decide +kernel) rfl, by decide +kernel, by decide +kernel, by decide +kernel⟩
theorem dv_X9_type : XDV yX9_type 9 := ⟨inG 826 (by decide +kernel) rfl, inG 827 (by decide +kernel) rfl, ⟨TX9, 17, rfl⟩⟩
theorem dd_X9_undo : XD yX9_undo cX9_undo 1 (some .int) 0 := ⟨inG 820 (by decide +kernel) rfl, inG 63 (by decide +kernel) rfl, by decide +kernel, by decide +kernel, by decide +kernel⟩
theorem dv_X9_undo : XDV yX9_undo 9 := ⟨inG 818 (by decide +kernel) rfl, inG 819 (by decide +kernel) rfl, ⟨TX9, 17, rfl⟩⟩
theorem oi_inst : Cond.instanceMethod objectInit ∈ tblG := inG 73 (by decide +kernel) rfl
theorem oi_code : Cond.code objectInit ⟨#[0xb1]⟩ 1 none ∈ tblG := inG 74 (by decide +kernel) rfl
theorem ar_int : Cond.arrayClass .int ∈ tblG := inG 120 (by decide +kernel) rfl
theorem ar_boolean : Cond.arrayClass .boolean ∈ tblG := inG 816 (by decide +kernel) rfl
theorem cl_L_7 : Cond.classLink RL 7 RX8 ∈ tblG := inG 67 (by decide +kernel) rfl
theorem cl_L_10 : Cond.classLink RL 10 RX9 ∈ tblG := inG 758 (by decide +kernel) rfl
theorem cl_X3_9 : Cond.classLink RX3 9 RX5 ∈ tblG := inG 208 (by decide +kernel) rfl
theorem cl_X5_7 : Cond.classLink RX5 7 RX6 ∈ tblG := inG 81 (by decide +kernel) rfl
theorem cl_X5_16 : Cond.classLink RX5 16 RX2 ∈ tblG := inG 121 (by decide +kernel) rfl
theorem cl_X5_23 : Cond.classLink RX5 23 RX4 ∈ tblG := inG 138 (by decide +kernel) rfl
theorem cl_X5_30 : Cond.classLink RX5 30 RX1 ∈ tblG := inG 162 (by decide +kernel) rfl
theorem cl_X8_7 : Cond.classLink RX8 7 RX5 ∈ tblG := inG 75 (by decide +kernel) rfl
theorem cl_X8_16 : Cond.classLink RX8 16 RX3 ∈ tblG := inG 202 (by decide +kernel) rfl
theorem cl_X8_23 : Cond.classLink RX8 23 RX7 ∈ tblG := inG 222 (by decide +kernel) rfl
theorem cl_X8_30 : Cond.classLink RX8 30 RX6 ∈ tblG := inG 247 (by decide +kernel) rfl
theorem cl_X8_37 : Cond.classLink RX8 37 RX0 ∈ tblG := inG 249 (by decide +kernel) rfl
theorem lk_L_9 : Cond.methodLink RL 9 yX8_init ∈ tblG := inG 69 (by decide +kernel) rfl
theorem lk_L_12 : Cond.methodLink RL 12 yX9_init ∈ tblG := inG 760 (by decide +kernel) rfl
theorem lk_L_13 : Cond.methodLink RL 13 yX8_type ∈ tblG := inG 287 (by decide +kernel) rfl
theorem lk_L_17 : Cond.methodLink RL 17 yX9_type ∈ tblG := inG 825 (by decide +kernel) rfl
theorem lk_L_18 : Cond.methodLink RL 18 yX8_clearText ∈ tblG := inG 299 (by decide +kernel) rfl
theorem lk_L_22 : Cond.methodLink RL 22 yX9_clearText ∈ tblG := inG 832 (by decide +kernel) rfl
theorem lk_L_23 : Cond.methodLink RL 23 yX8_load ∈ tblG := inG 303 (by decide +kernel) rfl
theorem lk_L_26 : Cond.methodLink RL 26 yX9_load ∈ tblG := inG 836 (by decide +kernel) rfl
theorem lk_L_27 : Cond.methodLink RL 27 yX8_faultKind ∈ tblG := inG 389 (by decide +kernel) rfl
theorem lk_L_30 : Cond.methodLink RL 30 yX9_faultKind ∈ tblG := inG 876 (by decide +kernel) rfl
theorem lk_L_31 : Cond.methodLink RL 31 yX8_setMark ∈ tblG := inG 393 (by decide +kernel) rfl
theorem lk_L_35 : Cond.methodLink RL 35 yX9_setMark ∈ tblG := inG 880 (by decide +kernel) rfl
theorem lk_L_36 : Cond.methodLink RL 36 yX8_setStart ∈ tblG := inG 407 (by decide +kernel) rfl
theorem lk_L_39 : Cond.methodLink RL 39 yX9_setStart ∈ tblG := inG 892 (by decide +kernel) rfl
theorem lk_L_40 : Cond.methodLink RL 40 yX8_setSpeed ∈ tblG := inG 411 (by decide +kernel) rfl
theorem lk_L_43 : Cond.methodLink RL 43 yX9_setSpeed ∈ tblG := inG 896 (by decide +kernel) rfl
theorem lk_L_44 : Cond.methodLink RL 44 yX8_dropChange ∈ tblG := inG 438 (by decide +kernel) rfl
theorem lk_L_47 : Cond.methodLink RL 47 yX9_dropChange ∈ tblG := inG 915 (by decide +kernel) rfl
theorem lk_L_48 : Cond.methodLink RL 48 yX8_markAt ∈ tblG := inG 447 (by decide +kernel) rfl
theorem lk_L_51 : Cond.methodLink RL 51 yX9_markAt ∈ tblG := inG 919 (by decide +kernel) rfl
theorem lk_L_52 : Cond.methodLink RL 52 yX8_turn ∈ tblG := inG 456 (by decide +kernel) rfl
theorem lk_L_55 : Cond.methodLink RL 55 yX9_turn ∈ tblG := inG 938 (by decide +kernel) rfl
theorem lk_L_56 : Cond.methodLink RL 56 yX8_setFlash ∈ tblG := inG 460 (by decide +kernel) rfl
theorem lk_L_59 : Cond.methodLink RL 59 yX9_setFlash ∈ tblG := inG 942 (by decide +kernel) rfl
theorem lk_L_60 : Cond.methodLink RL 60 yX8_flash ∈ tblG := inG 468 (by decide +kernel) rfl
theorem lk_L_63 : Cond.methodLink RL 63 yX9_flash ∈ tblG := inG 950 (by decide +kernel) rfl
theorem lk_L_64 : Cond.methodLink RL 64 yX8_step ∈ tblG := inG 507 (by decide +kernel) rfl
theorem lk_L_67 : Cond.methodLink RL 67 yX9_step ∈ tblG := inG 978 (by decide +kernel) rfl
theorem lk_L_68 : Cond.methodLink RL 68 yX8_seems ∈ tblG := inG 508 (by decide +kernel) rfl
theorem lk_L_71 : Cond.methodLink RL 71 yX9_seems ∈ tblG := inG 982 (by decide +kernel) rfl
theorem lk_L_72 : Cond.methodLink RL 72 yX8_stillPeriod ∈ tblG := inG 532 (by decide +kernel) rfl
theorem lk_L_75 : Cond.methodLink RL 75 yX9_stillPeriod ∈ tblG := inG 990 (by decide +kernel) rfl
theorem lk_L_76 : Cond.methodLink RL 76 yX8_read ∈ tblG := inG 536 (by decide +kernel) rfl
theorem lk_L_79 : Cond.methodLink RL 79 yX9_read ∈ tblG := inG 994 (by decide +kernel) rfl
theorem lk_L_80 : Cond.methodLink RL 80 yX8_look ∈ tblG := inG 549 (by decide +kernel) rfl
theorem lk_L_83 : Cond.methodLink RL 83 yX9_look ∈ tblG := inG 1002 (by decide +kernel) rfl
theorem lk_L_84 : Cond.methodLink RL 84 yX8_dropReading ∈ tblG := inG 554 (by decide +kernel) rfl
theorem lk_L_87 : Cond.methodLink RL 87 yX9_dropReading ∈ tblG := inG 1006 (by decide +kernel) rfl
theorem lk_L_88 : Cond.methodLink RL 88 yX8_reading ∈ tblG := inG 567 (by decide +kernel) rfl
theorem lk_L_91 : Cond.methodLink RL 91 yX9_reading ∈ tblG := inG 1014 (by decide +kernel) rfl
theorem lk_L_92 : Cond.methodLink RL 92 yX8_setLimit ∈ tblG := inG 597 (by decide +kernel) rfl
theorem lk_L_95 : Cond.methodLink RL 95 yX9_setLimit ∈ tblG := inG 1022 (by decide +kernel) rfl
theorem lk_L_96 : Cond.methodLink RL 96 yX8_candidates ∈ tblG := inG 601 (by decide +kernel) rfl
theorem lk_L_99 : Cond.methodLink RL 99 yX9_candidates ∈ tblG := inG 1026 (by decide +kernel) rfl
theorem lk_L_100 : Cond.methodLink RL 100 yX8_candidate ∈ tblG := inG 605 (by decide +kernel) rfl
theorem lk_L_103 : Cond.methodLink RL 103 yX9_candidate ∈ tblG := inG 1030 (by decide +kernel) rfl
theorem lk_L_104 : Cond.methodLink RL 104 yX8_nearest ∈ tblG := inG 613 (by decide +kernel) rfl
theorem lk_L_107 : Cond.methodLink RL 107 yX9_nearest ∈ tblG := inG 1034 (by decide +kernel) rfl
theorem lk_L_108 : Cond.methodLink RL 108 yX8_odd ∈ tblG := inG 624 (by decide +kernel) rfl
theorem lk_L_111 : Cond.methodLink RL 111 yX9_odd ∈ tblG := inG 1041 (by decide +kernel) rfl
theorem lk_L_112 : Cond.methodLink RL 112 yX8_bestPeriod ∈ tblG := inG 629 (by decide +kernel) rfl
theorem lk_L_116 : Cond.methodLink RL 116 yX9_bestPeriod ∈ tblG := inG 1045 (by decide +kernel) rfl
theorem lk_L_117 : Cond.methodLink RL 117 yX8_setDisc ∈ tblG := inG 646 (by decide +kernel) rfl
theorem lk_L_120 : Cond.methodLink RL 120 yX9_setDisc ∈ tblG := inG 1053 (by decide +kernel) rfl
theorem lk_L_121 : Cond.methodLink RL 121 yX8_turnDisc ∈ tblG := inG 656 (by decide +kernel) rfl
theorem lk_L_124 : Cond.methodLink RL 124 yX9_turnDisc ∈ tblG := inG 1057 (by decide +kernel) rfl
theorem lk_L_125 : Cond.methodLink RL 125 yX8_isSeen ∈ tblG := inG 660 (by decide +kernel) rfl
theorem lk_L_128 : Cond.methodLink RL 128 yX9_isSeen ∈ tblG := inG 1061 (by decide +kernel) rfl
theorem lk_L_129 : Cond.methodLink RL 129 yX8_opening ∈ tblG := inG 670 (by decide +kernel) rfl
theorem lk_L_132 : Cond.methodLink RL 132 yX9_opening ∈ tblG := inG 1069 (by decide +kernel) rfl
theorem lk_L_133 : Cond.methodLink RL 133 yX8_smear ∈ tblG := inG 705 (by decide +kernel) rfl
theorem lk_L_136 : Cond.methodLink RL 136 yX9_smear ∈ tblG := inG 1089 (by decide +kernel) rfl
theorem lk_L_137 : Cond.methodLink RL 137 yX8_undo ∈ tblG := inG 711 (by decide +kernel) rfl
theorem lk_L_140 : Cond.methodLink RL 140 yX9_undo ∈ tblG := inG 817 (by decide +kernel) rfl
theorem lk_L_141 : Cond.methodLink RL 141 yX8_count ∈ tblG := inG 719 (by decide +kernel) rfl
theorem lk_L_144 : Cond.methodLink RL 144 yX9_count ∈ tblG := inG 1093 (by decide +kernel) rfl
theorem lk_L_145 : Cond.methodLink RL 145 yX8_digest ∈ tblG := inG 731 (by decide +kernel) rfl
theorem lk_L_149 : Cond.methodLink RL 149 yX9_digest ∈ tblG := inG 1101 (by decide +kernel) rfl
theorem lk_X0_3 : Cond.methodLink RX0 3 objectInit ∈ tblG := inG 254 (by decide +kernel) rfl
theorem lk_X0_32 : Cond.methodLink RX0 32 yX4_allFit ∈ tblG := inG 580 (by decide +kernel) rfl
theorem lk_X0_44 : Cond.methodLink RX0 44 yX0_has ∈ tblG := inG 589 (by decide +kernel) rfl
theorem lk_X0_48 : Cond.methodLink RX0 48 yJ9_abs_0f7a4 ∈ tblG := inG 621 (by decide +kernel) rfl
theorem lk_X0_62 : Cond.methodLink RX0 62 yJ9_max_7cf53 ∈ tblG := inG 643 (by decide +kernel) rfl
theorem lk_X1_3 : Cond.methodLink RX1 3 objectInit ∈ tblG := inG 167 (by decide +kernel) rfl
theorem lk_X1_32 : Cond.methodLink RX1 32 yX1_isOpenAt ∈ tblG := inG 682 (by decide +kernel) rfl
theorem lk_X1_36 : Cond.methodLink RX1 36 yX1_opensAt ∈ tblG := inG 678 (by decide +kernel) rfl
theorem lk_X2_3 : Cond.methodLink RX2 3 objectInit ∈ tblG := inG 126 (by decide +kernel) rfl
theorem lk_X3_3 : Cond.methodLink RX3 3 objectInit ∈ tblG := inG 207 (by decide +kernel) rfl
theorem lk_X3_22 : Cond.methodLink RX3 22 yX3_slotAt ∈ tblG := inG 357 (by decide +kernel) rfl
theorem lk_X3_26 : Cond.methodLink RX3 26 yX5_copyFrom ∈ tblG := inG 361 (by decide +kernel) rfl
theorem lk_X4_3 : Cond.methodLink RX4 3 objectInit ∈ tblG := inG 143 (by decide +kernel) rfl
theorem lk_X5_1 : Cond.methodLink RX5 1 objectInit ∈ tblG := inG 80 (by decide +kernel) rfl
theorem lk_X5_9 : Cond.methodLink RX5 9 yX6_init ∈ tblG := inG 83 (by decide +kernel) rfl
theorem lk_X5_37 : Cond.methodLink RX5 37 yX6_copyFrom ∈ tblG := inG 365 (by decide +kernel) rfl
theorem lk_X5_41 : Cond.methodLink RX5 41 yX2_copyFrom ∈ tblG := inG 372 (by decide +kernel) rfl
theorem lk_X5_44 : Cond.methodLink RX5 44 yX4_copyFrom ∈ tblG := inG 376 (by decide +kernel) rfl
theorem lk_X5_47 : Cond.methodLink RX5 47 yX1_copyFrom ∈ tblG := inG 381 (by decide +kernel) rfl
theorem lk_X5_50 : Cond.methodLink RX5 50 yX6_measure ∈ tblG := inG 503 (by decide +kernel) rfl
theorem lk_X5_54 : Cond.methodLink RX5 54 yX2_tickOf ∈ tblG := inG 504 (by decide +kernel) rfl
theorem lk_X5_58 : Cond.methodLink RX5 58 yX6_turnAt ∈ tblG := inG 505 (by decide +kernel) rfl
theorem lk_X5_67 : Cond.methodLink RX5 67 yX2_number ∈ tblG := inG 516 (by decide +kernel) rfl
theorem lk_X5_70 : Cond.methodLink RX5 70 yX6_stepBetween ∈ tblG := inG 531 (by decide +kernel) rfl
theorem lk_X5_81 : Cond.methodLink RX5 81 yX6_turnsModulo ∈ tblG := inG 517 (by decide +kernel) rfl
theorem lk_X5_85 : Cond.methodLink RX5 85 yJ13_bitCount_95d88 ∈ tblG := inG 521 (by decide +kernel) rfl
theorem lk_X6_3 : Cond.methodLink RX6 3 objectInit ∈ tblG := inG 86 (by decide +kernel) rfl
theorem lk_X6_46 : Cond.methodLink RX6 46 yX6_markOf ∈ tblG := inG 697 (by decide +kernel) rfl
theorem lk_X6_54 : Cond.methodLink RX6 54 yX6_isSameTurnedBy ∈ tblG := inG 490 (by decide +kernel) rfl
theorem lk_X6_58 : Cond.methodLink RX6 58 yX6_placeOfChange ∈ tblG := inG 426 (by decide +kernel) rfl
theorem lk_X6_61 : Cond.methodLink RX6 61 yX6_hasChange ∈ tblG := inG 422 (by decide +kernel) rfl
theorem lk_X6_64 : Cond.methodLink RX6 64 yX6_insertChange ∈ tblG := inG 434 (by decide +kernel) rfl
theorem lk_X6_68 : Cond.methodLink RX6 68 yX6_turnAt ∈ tblG := inG 498 (by decide +kernel) rfl
theorem lk_X6_71 : Cond.methodLink RX6 71 yX6_measure ∈ tblG := inG 703 (by decide +kernel) rfl
theorem lk_X6_75 : Cond.methodLink RX6 75 yX6_turnsModulo ∈ tblG := inG 691 (by decide +kernel) rfl
theorem lk_X6_79 : Cond.methodLink RX6 79 yJ13_bitCount_95d88 ∈ tblG := inG 704 (by decide +kernel) rfl
theorem lk_X6_85 : Cond.methodLink RX6 85 yX6_marksPassing ∈ tblG := inG 692 (by decide +kernel) rfl
theorem lk_X6_89 : Cond.methodLink RX6 89 yJ6_bitCount_0f7a4 ∈ tblG := inG 698 (by decide +kernel) rfl
theorem lk_X7_3 : Cond.methodLink RX7 3 objectInit ∈ tblG := inG 227 (by decide +kernel) rfl
theorem lk_X7_29 : Cond.methodLink RX7 29 yX6_empty ∈ tblG := inG 311 (by decide +kernel) rfl
theorem lk_X7_34 : Cond.methodLink RX7 34 yX7_readCells ∈ tblG := inG 315 (by decide +kernel) rfl
theorem lk_X7_38 : Cond.methodLink RX7 38 yX7_takes ∈ tblG := inG 338 (by decide +kernel) rfl
theorem lk_X7_42 : Cond.methodLink RX7 42 yX7_readNumber ∈ tblG := inG 342 (by decide +kernel) rfl
theorem lk_X7_49 : Cond.methodLink RX7 49 yX7_readSpeed ∈ tblG := inG 349 (by decide +kernel) rfl
theorem lk_X7_56 : Cond.methodLink RX7 56 yX7_tellFault ∈ tblG := inG 334 (by decide +kernel) rfl
theorem lk_X7_63 : Cond.methodLink RX7 63 yX7_code ∈ tblG := inG 319 (by decide +kernel) rfl
theorem lk_X7_66 : Cond.methodLink RX7 66 yX7_isCell ∈ tblG := inG 326 (by decide +kernel) rfl
theorem lk_X7_69 : Cond.methodLink RX7 69 yX6_addCell ∈ tblG := inG 330 (by decide +kernel) rfl
theorem lk_X7_73 : Cond.methodLink RX7 73 yX7_isDigit ∈ tblG := inG 346 (by decide +kernel) rfl
theorem lk_X8_1 : Cond.methodLink RX8 1 objectInit ∈ tblG := inG 72 (by decide +kernel) rfl
theorem lk_X8_18 : Cond.methodLink RX8 18 yX3_init ∈ tblG := inG 204 (by decide +kernel) rfl
theorem lk_X8_32 : Cond.methodLink RX8 32 yX6_init ∈ tblG := inG 248 (by decide +kernel) rfl
theorem lk_X8_44 : Cond.methodLink RX8 44 yX8_within ∈ tblG := inG 291 (by decide +kernel) rfl
theorem lk_X8_52 : Cond.methodLink RX8 52 yX7_append ∈ tblG := inG 294 (by decide +kernel) rfl
theorem lk_X8_56 : Cond.methodLink RX8 56 yX7_readInto ∈ tblG := inG 307 (by decide +kernel) rfl
theorem lk_X8_63 : Cond.methodLink RX8 63 yX3_remember ∈ tblG := inG 353 (by decide +kernel) rfl
theorem lk_X8_70 : Cond.methodLink RX8 70 yX6_copyFrom ∈ tblG := inG 388 (by decide +kernel) rfl
theorem lk_X8_80 : Cond.methodLink RX8 80 yX8_isPlace ∈ tblG := inG 397 (by decide +kernel) rfl
theorem lk_X8_84 : Cond.methodLink RX8 84 yX6_markOf ∈ tblG := inG 401 (by decide +kernel) rfl
theorem lk_X8_92 : Cond.methodLink RX8 92 yX8_put ∈ tblG := inG 406 (by decide +kernel) rfl
theorem lk_X8_99 : Cond.methodLink RX8 99 yX8_isTick ∈ tblG := inG 415 (by decide +kernel) rfl
theorem lk_X8_102 : Cond.methodLink RX8 102 yX6_hasRoomFor ∈ tblG := inG 418 (by decide +kernel) rfl
theorem lk_X8_105 : Cond.methodLink RX8 105 yX6_putSpeed ∈ tblG := inG 430 (by decide +kernel) rfl
theorem lk_X8_112 : Cond.methodLink RX8 112 yX6_hasChange ∈ tblG := inG 442 (by decide +kernel) rfl
theorem lk_X8_115 : Cond.methodLink RX8 115 yX6_removeChange ∈ tblG := inG 443 (by decide +kernel) rfl
theorem lk_X8_118 : Cond.methodLink RX8 118 yX6_turnAt ∈ tblG := inG 451 (by decide +kernel) rfl
theorem lk_X8_121 : Cond.methodLink RX8 121 yX8_mod ∈ tblG := inG 455 (by decide +kernel) rfl
theorem lk_X8_137 : Cond.methodLink RX8 137 yX2_number ∈ tblG := inG 464 (by decide +kernel) rfl
theorem lk_X8_141 : Cond.methodLink RX8 141 yX8_isFlash ∈ tblG := inG 472 (by decide +kernel) rfl
theorem lk_X8_144 : Cond.methodLink RX8 144 yX2_tickOf ∈ tblG := inG 476 (by decide +kernel) rfl
theorem lk_X8_147 : Cond.methodLink RX8 147 yX8_turn ∈ tblG := inG 480 (by decide +kernel) rfl
theorem lk_X8_150 : Cond.methodLink RX8 150 yX8_step ∈ tblG := inG 481 (by decide +kernel) rfl
theorem lk_X8_153 : Cond.methodLink RX8 153 yX5_earliestAlike ∈ tblG := inG 499 (by decide +kernel) rfl
theorem lk_X8_156 : Cond.methodLink RX8 156 yX6_measure ∈ tblG := inG 485 (by decide +kernel) rfl
theorem lk_X8_159 : Cond.methodLink RX8 159 yX6_stepBetween ∈ tblG := inG 494 (by decide +kernel) rfl
theorem lk_X8_163 : Cond.methodLink RX8 163 yX5_differentPictures ∈ tblG := inG 512 (by decide +kernel) rfl
theorem lk_X8_166 : Cond.methodLink RX8 166 yX5_countSeeming ∈ tblG := inG 527 (by decide +kernel) rfl
theorem lk_X8_172 : Cond.methodLink RX8 172 yX8_addReading ∈ tblG := inG 540 (by decide +kernel) rfl
theorem lk_X8_175 : Cond.methodLink RX8 175 yX8_flash ∈ tblG := inG 553 (by decide +kernel) rfl
theorem lk_X8_178 : Cond.methodLink RX8 178 yX8_isReading ∈ tblG := inG 558 (by decide +kernel) rfl
theorem lk_X8_185 : Cond.methodLink RX8 185 yX4_remove ∈ tblG := inG 562 (by decide +kernel) rfl
theorem lk_X8_196 : Cond.methodLink RX8 196 yX8_at ∈ tblG := inG 571 (by decide +kernel) rfl
theorem lk_X8_203 : Cond.methodLink RX8 203 yX8_findWithout ∈ tblG := inG 572 (by decide +kernel) rfl
theorem lk_X8_207 : Cond.methodLink RX8 207 yX0_number ∈ tblG := inG 585 (by decide +kernel) rfl
theorem lk_X8_211 : Cond.methodLink RX8 211 yX0_inOrder ∈ tblG := inG 609 (by decide +kernel) rfl
theorem lk_X8_214 : Cond.methodLink RX8 214 yX0_nearestTo ∈ tblG := inG 617 (by decide +kernel) rfl
theorem lk_X8_217 : Cond.methodLink RX8 217 yX8_candidates ∈ tblG := inG 628 (by decide +kernel) rfl
theorem lk_X8_220 : Cond.methodLink RX8 220 yX0_countByRemainder ∈ tblG := inG 633 (by decide +kernel) rfl
theorem lk_X8_223 : Cond.methodLink RX8 223 yX0_restOf ∈ tblG := inG 639 (by decide +kernel) rfl
theorem lk_X8_236 : Cond.methodLink RX8 236 yJ6_bitCount_0f7a4 ∈ tblG := inG 650 (by decide +kernel) rfl
theorem lk_X8_243 : Cond.methodLink RX8 243 yX1_isOpenAt ∈ tblG := inG 664 (by decide +kernel) rfl
theorem lk_X8_246 : Cond.methodLink RX8 246 yX1_firstTickOf ∈ tblG := inG 674 (by decide +kernel) rfl
theorem lk_X8_249 : Cond.methodLink RX8 249 yX1_ticksFrom ∈ tblG := inG 683 (by decide +kernel) rfl
theorem lk_X8_252 : Cond.methodLink RX8 252 yX6_smearedPlaces ∈ tblG := inG 687 (by decide +kernel) rfl
theorem lk_X8_255 : Cond.methodLink RX8 255 yX6_looksTheSame ∈ tblG := inG 699 (by decide +kernel) rfl
theorem lk_X8_259 : Cond.methodLink RX8 259 yX6_turnsModulo ∈ tblG := inG 709 (by decide +kernel) rfl
theorem lk_X8_263 : Cond.methodLink RX8 263 yX6_marksPassing ∈ tblG := inG 710 (by decide +kernel) rfl
theorem lk_X8_268 : Cond.methodLink RX8 268 yX3_restore ∈ tblG := inG 715 (by decide +kernel) rfl
theorem lk_X8_271 : Cond.methodLink RX8 271 yX6_markedCells ∈ tblG := inG 723 (by decide +kernel) rfl
theorem lk_X8_274 : Cond.methodLink RX8 274 yX1_openings ∈ tblG := inG 727 (by decide +kernel) rfl
theorem lk_X8_281 : Cond.methodLink RX8 281 yX8_count ∈ tblG := inG 737 (by decide +kernel) rfl
theorem lk_X8_284 : Cond.methodLink RX8 284 yX8_digestOfPictures ∈ tblG := inG 738 (by decide +kernel) rfl
theorem lk_X8_288 : Cond.methodLink RX8 288 yX8_digestOfReadings ∈ tblG := inG 744 (by decide +kernel) rfl
theorem lk_X8_291 : Cond.methodLink RX8 291 yX8_digestOfOpenings ∈ tblG := inG 752 (by decide +kernel) rfl
theorem lk_X8_294 : Cond.methodLink RX8 294 yX8_markAt ∈ tblG := inG 742 (by decide +kernel) rfl
theorem lk_X8_297 : Cond.methodLink RX8 297 yX8_seems ∈ tblG := inG 743 (by decide +kernel) rfl
theorem lk_X8_300 : Cond.methodLink RX8 300 yX8_reading ∈ tblG := inG 748 (by decide +kernel) rfl
theorem lk_X8_303 : Cond.methodLink RX8 303 yX8_candidate ∈ tblG := inG 749 (by decide +kernel) rfl
theorem lk_X8_306 : Cond.methodLink RX8 306 yX8_nearest ∈ tblG := inG 750 (by decide +kernel) rfl
theorem lk_X8_309 : Cond.methodLink RX8 309 yX8_bestPeriod ∈ tblG := inG 751 (by decide +kernel) rfl
theorem lk_X8_313 : Cond.methodLink RX8 313 yX8_opening ∈ tblG := inG 756 (by decide +kernel) rfl
theorem lk_X8_316 : Cond.methodLink RX8 316 yX8_smear ∈ tblG := inG 757 (by decide +kernel) rfl
theorem lk_X8_319 : Cond.methodLink RX8 319 yX4_add ∈ tblG := inG 544 (by decide +kernel) rfl
theorem lk_X8_322 : Cond.methodLink RX8 322 yX0_find ∈ tblG := inG 576 (by decide +kernel) rfl
theorem lk_X9_1 : Cond.methodLink RX9 1 objectInit ∈ tblG := inG 763 (by decide +kernel) rfl
theorem lk_X9_33 : Cond.methodLink RX9 33 yX9_copies ∈ tblG := inG 821 (by decide +kernel) rfl
theorem lk_X9_37 : Cond.methodLink RX9 37 yX9_cells ∈ tblG := inG 872 (by decide +kernel) rfl
theorem lk_X9_41 : Cond.methodLink RX9 41 yX9_measure ∈ tblG := inG 927 (by decide +kernel) rfl
theorem lk_X9_47 : Cond.methodLink RX9 47 yX9_modulo ∈ tblG := inG 931 (by decide +kernel) rfl
theorem lk_X9_51 : Cond.methodLink RX9 51 yX9_tickOf ∈ tblG := inG 911 (by decide +kernel) rfl
theorem lk_X9_55 : Cond.methodLink RX9 55 yX9_in ∈ tblG := inG 829 (by decide +kernel) rfl
theorem lk_X9_59 : Cond.methodLink RX9 59 yX9_stepOf ∈ tblG := inG 966 (by decide +kernel) rfl
theorem lk_X9_68 : Cond.methodLink RX9 68 yX9_here ∈ tblG := inG 844 (by decide +kernel) rfl
theorem lk_X9_80 : Cond.methodLink RX9 80 yX9_isDigit ∈ tblG := inG 860 (by decide +kernel) rfl
theorem lk_X9_84 : Cond.methodLink RX9 84 yX9_fails ∈ tblG := inG 848 (by decide +kernel) rfl
theorem lk_X9_88 : Cond.methodLink RX9 88 yX9_readsNumber ∈ tblG := inG 856 (by decide +kernel) rfl
theorem lk_X9_92 : Cond.methodLink RX9 92 yX9_readsCells ∈ tblG := inG 840 (by decide +kernel) rfl
theorem lk_X9_95 : Cond.methodLink RX9 95 yX9_readsStart ∈ tblG := inG 852 (by decide +kernel) rfl
theorem lk_X9_98 : Cond.methodLink RX9 98 yX9_readsSpeed ∈ tblG := inG 864 (by decide +kernel) rfl
theorem lk_X9_101 : Cond.methodLink RX9 101 yX9_records ∈ tblG := inG 868 (by decide +kernel) rfl
theorem lk_X9_104 : Cond.methodLink RX9 104 yX9_isCell ∈ tblG := inG 884 (by decide +kernel) rfl
theorem lk_X9_108 : Cond.methodLink RX9 108 yX9_becomes ∈ tblG := inG 888 (by decide +kernel) rfl
theorem lk_X9_111 : Cond.methodLink RX9 111 yX9_changeFrom ∈ tblG := inG 907 (by decide +kernel) rfl
theorem lk_X9_114 : Cond.methodLink RX9 114 yX9_isTick ∈ tblG := inG 900 (by decide +kernel) rfl
theorem lk_X9_117 : Cond.methodLink RX9 117 yX9_isChange ∈ tblG := inG 903 (by decide +kernel) rfl
theorem lk_X9_120 : Cond.methodLink RX9 120 yX9_laysTurns ∈ tblG := inG 923 (by decide +kernel) rfl
theorem lk_X9_123 : Cond.methodLink RX9 123 yX9_seenAt ∈ tblG := inG 934 (by decide +kernel) rfl
theorem lk_X9_126 : Cond.methodLink RX9 126 yX9_flashes ∈ tblG := inG 946 (by decide +kernel) rfl
theorem lk_X9_129 : Cond.methodLink RX9 129 yX9_tickOfFlash ∈ tblG := inG 958 (by decide +kernel) rfl
theorem lk_X9_132 : Cond.methodLink RX9 132 yX9_isSamePicture ∈ tblG := inG 974 (by decide +kernel) rfl
theorem lk_X9_135 : Cond.methodLink RX9 135 yX9_isFlash ∈ tblG := inG 954 (by decide +kernel) rfl
theorem lk_X9_138 : Cond.methodLink RX9 138 yX9_stepBehind ∈ tblG := inG 962 (by decide +kernel) rfl
theorem lk_X9_141 : Cond.methodLink RX9 141 yX9_earliest ∈ tblG := inG 970 (by decide +kernel) rfl
theorem lk_X9_144 : Cond.methodLink RX9 144 yX9_pictures ∈ tblG := inG 986 (by decide +kernel) rfl
theorem lk_X9_147 : Cond.methodLink RX9 147 yX9_adds ∈ tblG := inG 998 (by decide +kernel) rfl
theorem lk_X9_150 : Cond.methodLink RX9 150 yX9_isReading ∈ tblG := inG 1010 (by decide +kernel) rfl
theorem lk_X9_156 : Cond.methodLink RX9 156 yX9_finds ∈ tblG := inG 1018 (by decide +kernel) rfl
theorem lk_X9_160 : Cond.methodLink RX9 160 yX9_apart ∈ tblG := inG 1038 (by decide +kernel) rfl
theorem lk_X9_163 : Cond.methodLink RX9 163 yX9_restOf ∈ tblG := inG 1049 (by decide +kernel) rfl
theorem lk_X9_166 : Cond.methodLink RX9 166 yX9_isOpen ∈ tblG := inG 1065 (by decide +kernel) rfl
theorem lk_X9_175 : Cond.methodLink RX9 175 yX9_smearAt ∈ tblG := inG 1081 (by decide +kernel) rfl
theorem lk_X9_178 : Cond.methodLink RX9 178 yX9_goesTo ∈ tblG := inG 1073 (by decide +kernel) rfl
theorem lk_X9_181 : Cond.methodLink RX9 181 yX9_smeared ∈ tblG := inG 1077 (by decide +kernel) rfl
theorem lk_X9_184 : Cond.methodLink RX9 184 yX9_isStill ∈ tblG := inG 1085 (by decide +kernel) rfl
theorem lk_X9_187 : Cond.methodLink RX9 187 yX9_marks ∈ tblG := inG 1097 (by decide +kernel) rfl
theorem lk_X9_196 : Cond.methodLink RX9 196 yX9_reading ∈ tblG := inG 1119 (by decide +kernel) rfl
theorem lk_X9_199 : Cond.methodLink RX9 199 yX9_mixes ∈ tblG := inG 1107 (by decide +kernel) rfl
theorem lk_X9_202 : Cond.methodLink RX9 202 yX9_candidates ∈ tblG := inG 1120 (by decide +kernel) rfl
theorem lk_X9_205 : Cond.methodLink RX9 205 yX9_candidate ∈ tblG := inG 1121 (by decide +kernel) rfl
theorem lk_X9_208 : Cond.methodLink RX9 208 yX9_nearest ∈ tblG := inG 1122 (by decide +kernel) rfl
theorem lk_X9_211 : Cond.methodLink RX9 211 yX9_bestPeriod ∈ tblG := inG 1123 (by decide +kernel) rfl
theorem lk_X9_217 : Cond.methodLink RX9 217 yX9_count ∈ tblG := inG 1106 (by decide +kernel) rfl
theorem lk_X9_220 : Cond.methodLink RX9 220 yX9_markAt ∈ tblG := inG 1112 (by decide +kernel) rfl
theorem lk_X9_223 : Cond.methodLink RX9 223 yX9_flash ∈ tblG := inG 1113 (by decide +kernel) rfl
theorem lk_X9_226 : Cond.methodLink RX9 226 yX9_seems ∈ tblG := inG 1114 (by decide +kernel) rfl
theorem lk_X9_229 : Cond.methodLink RX9 229 yX9_mixesReadings ∈ tblG := inG 1115 (by decide +kernel) rfl
theorem lk_X9_232 : Cond.methodLink RX9 232 yX9_opening ∈ tblG := inG 1124 (by decide +kernel) rfl
theorem lk_X9_235 : Cond.methodLink RX9 235 yX9_smear ∈ tblG := inG 1125 (by decide +kernel) rfl
theorem lk_X0_36 : Cond.methodLinkNest RX0 36 yX8_mod "FlashWheelReader" ∈ nestG := inN 593 (by decide +kernel) rfl
theorem lk_X0_40 : Cond.methodLinkNest RX0 40 yX8_hasBit "FlashWheelReader" ∈ nestG := inN 594 (by decide +kernel) rfl
theorem lk_X0_54 : Cond.methodLinkNest RX0 54 yX8_put "FlashWheelReader" ∈ nestG := inN 637 (by decide +kernel) rfl
theorem lk_X0_58 : Cond.methodLinkNest RX0 58 yX8_at "FlashWheelReader" ∈ nestG := inN 638 (by decide +kernel) rfl
theorem lk_X1_24 : Cond.methodLinkNest RX1 24 yX8_mod "FlashWheelReader" ∈ nestG := inN 668 (by decide +kernel) rfl
theorem lk_X1_28 : Cond.methodLinkNest RX1 28 yX8_hasBit "FlashWheelReader" ∈ nestG := inN 669 (by decide +kernel) rfl
theorem lk_X3_17 : Cond.methodLinkNest RX3 17 yX5_init "FlashWheelReader" ∈ nestG := inN 210 (by decide +kernel) rfl
theorem lk_X3_30 : Cond.methodLinkNest RX3 30 yX8_mod "FlashWheelReader" ∈ nestG := inN 385 (by decide +kernel) rfl
theorem lk_X4_22 : Cond.methodLinkNest RX4 22 yX8_copyRow "FlashWheelReader" ∈ nestG := inN 380 (by decide +kernel) rfl
theorem lk_X4_29 : Cond.methodLinkNest RX4 29 yX8_put "FlashWheelReader" ∈ nestG := inN 548 (by decide +kernel) rfl
theorem lk_X4_33 : Cond.methodLinkNest RX4 33 yX8_at "FlashWheelReader" ∈ nestG := inN 566 (by decide +kernel) rfl
theorem lk_X4_37 : Cond.methodLinkNest RX4 37 yX8_mod "FlashWheelReader" ∈ nestG := inN 584 (by decide +kernel) rfl
theorem lk_X5_18 : Cond.methodLinkNest RX5 18 yX2_init "FlashWheelReader" ∈ nestG := inN 123 (by decide +kernel) rfl
theorem lk_X5_25 : Cond.methodLinkNest RX5 25 yX4_init "FlashWheelReader" ∈ nestG := inN 140 (by decide +kernel) rfl
theorem lk_X5_32 : Cond.methodLinkNest RX5 32 yX1_init "FlashWheelReader" ∈ nestG := inN 164 (by decide +kernel) rfl
theorem lk_X5_61 : Cond.methodLinkNest RX5 61 yX8_mod "FlashWheelReader" ∈ nestG := inN 506 (by decide +kernel) rfl
theorem lk_X6_25 : Cond.methodLinkNest RX6 25 yX8_put "FlashWheelReader" ∈ nestG := inN 87 (by decide +kernel) rfl
theorem lk_X6_29 : Cond.methodLinkNest RX6 29 yX8_copyRow "FlashWheelReader" ∈ nestG := inN 369 (by decide +kernel) rfl
theorem lk_X6_42 : Cond.methodLinkNest RX6 42 yX8_at "FlashWheelReader" ∈ nestG := inN 405 (by decide +kernel) rfl
theorem lk_X6_50 : Cond.methodLinkNest RX6 50 yX8_mod "FlashWheelReader" ∈ nestG := inN 489 (by decide +kernel) rfl
theorem lk_X6_93 : Cond.methodLinkNest RX6 93 yX8_hasBit "FlashWheelReader" ∈ nestG := inN 696 (by decide +kernel) rfl
theorem lk_X7_22 : Cond.methodLinkNest RX7 22 yX8_put "FlashWheelReader" ∈ nestG := inN 298 (by decide +kernel) rfl
theorem lk_X7_76 : Cond.methodLinkNest RX7 76 yX8_at "FlashWheelReader" ∈ nestG := inN 323 (by decide +kernel) rfl
theorem lk_X7_83 : Cond.methodLinkNest RX7 83 yX8_within "FlashWheelReader" ∈ nestG := inN 329 (by decide +kernel) rfl
theorem lk_X8_9 : Cond.methodLinkNest RX8 9 yX5_init "FlashWheelReader" ∈ nestG := inN 77 (by decide +kernel) rfl
theorem lk_X8_25 : Cond.methodLinkNest RX8 25 yX7_init "FlashWheelReader" ∈ nestG := inN 224 (by decide +kernel) rfl
theorem lk_X8_39 : Cond.methodLinkNest RX8 39 yX0_init "FlashWheelReader" ∈ nestG := inN 251 (by decide +kernel) rfl
theorem cn_J6_265 : Cond.constant RJ6 265 1431655765 ∈ tblG := inG 653 (by decide +kernel) rfl
theorem cn_J6_266 : Cond.constant RJ6 266 858993459 ∈ tblG := inG 654 (by decide +kernel) rfl
theorem cn_J6_267 : Cond.constant RJ6 267 252645135 ∈ tblG := inG 655 (by decide +kernel) rfl
theorem cn_J13_314 : Cond.constantLong RJ13 314 6148914691236517205 ∈ tblG := inG 524 (by decide +kernel) rfl
theorem cn_J13_316 : Cond.constantLong RJ13 316 3689348814741910323 ∈ tblG := inG 525 (by decide +kernel) rfl
theorem cn_J13_318 : Cond.constantLong RJ13 318 1085102592571150095 ∈ tblG := inG 526 (by decide +kernel) rfl
theorem cn_X8_277 : Cond.constantLong RX8 277 12956 ∈ tblG := inG 735 (by decide +kernel) rfl
theorem cn_X8_279 : Cond.constantLong RX8 279 31 ∈ tblG := inG 736 (by decide +kernel) rfl
theorem cn_X9_190 : Cond.constantLong RX9 190 31 ∈ tblG := inG 1111 (by decide +kernel) rfl
theorem cn_X9_215 : Cond.constantLong RX9 215 12956 ∈ tblG := inG 1105 (by decide +kernel) rfl
theorem nw_X0 : XNw 0 RX0 5 [.null, .null, .int 0, .int 0, .long 0] := ⟨TX0, tyX0, rfl, uwX0, tyX0_ok, by decide +kernel, inG 250 (by decide +kernel) rfl, inG 62 (by decide +kernel) rfl, fun _ => rfl⟩
theorem nw_X1 : XNw 1 RX1 4 [.int 0, .int 0, .int 0, .int 0] := ⟨TX1, tyX1, rfl, uwX1, tyX1_ok, by decide +kernel, inG 163 (by decide +kernel) rfl, inG 59 (by decide +kernel) rfl, fun _ => rfl⟩
theorem nw_X2 : XNw 2 RX2 2 [.int 0, .int 0] := ⟨TX2, tyX2, rfl, uwX2, tyX2_ok, by decide +kernel, inG 122 (by decide +kernel) rfl, inG 57 (by decide +kernel) rfl, fun _ => rfl⟩
theorem nw_X3 : XNw 3 RX3 3 [.null, .int 0, .int 0] := ⟨TX3, tyX3, rfl, uwX3, tyX3_ok, by decide +kernel, inG 203 (by decide +kernel) rfl, inG 60 (by decide +kernel) rfl, fun _ => rfl⟩
theorem nw_X4 : XNw 4 RX4 4 [.null, .null, .int 0, .int 0] := ⟨TX4, tyX4, rfl, uwX4, tyX4_ok, by decide +kernel, inG 139 (by decide +kernel) rfl, inG 58 (by decide +kernel) rfl, fun _ => rfl⟩
theorem nw_X5 : XNw 5 RX5 4 [.null, .null, .null, .null] := ⟨TX5, tyX5, rfl, uwX5, tyX5_ok, by decide +kernel, inG 76 (by decide +kernel) rfl, inG 55 (by decide +kernel) rfl, fun _ => rfl⟩
theorem nw_X6 : XNw 6 RX6 7 [.null, .null, .null, .int 0, .int 0, .int 0, .int 0] := ⟨TX6, tyX6, rfl, uwX6, tyX6_ok, by decide +kernel, inG 82 (by decide +kernel) rfl, inG 56 (by decide +kernel) rfl, fun _ => rfl⟩
theorem nw_X7 : XNw 7 RX7 5 [.null, .int 0, .int 0, .int 0, .int 0] := ⟨TX7, tyX7, rfl, uwX7, tyX7_ok, by decide +kernel, inG 223 (by decide +kernel) rfl, inG 61 (by decide +kernel) rfl, fun _ => rfl⟩
theorem nw_X8 : XNw 8 RX8 5 [.null, .null, .null, .null, .null] := ⟨TX8, tyX8, rfl, uwX8, tyX8_ok, by decide +kernel, inG 68 (by decide +kernel) rfl, inG 54 (by decide +kernel) rfl, fun _ => rfl⟩
theorem nw_X9 : XNw 9 RX9 17 [.null, .int 0, .null, .int 0, .null, .int 0, .int 0, .int 0, .int 0, .int 0, .null, .null, .int 0, .null, .int 0, .int 0, .long 0] := ⟨TX9, tyX9, rfl, uwX9, tyX9_ok, by decide +kernel, inG 759 (by decide +kernel) rfl, inG 63 (by decide +kernel) rfl, fun _ => rfl⟩
