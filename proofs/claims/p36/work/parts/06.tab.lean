theorem xk_b_m30 : (Int8.ofInt (-30)).toInt32 = (-30) := by decide
theorem xk_b_m10 : (Int8.ofInt (-10)).toInt32 = (-10) := by decide
theorem xk_b_6 : (Int8.ofInt 6).toInt32 = 6 := by decide
theorem xk_b_7 : (Int8.ofInt 7).toInt32 = 7 := by decide
theorem xk_b_8 : (Int8.ofInt 8).toInt32 = 8 := by decide
theorem xk_b_9 : (Int8.ofInt 9).toInt32 = 9 := by decide
theorem xk_b_10 : (Int8.ofInt 10).toInt32 = 10 := by decide
theorem xk_b_11 : (Int8.ofInt 11).toInt32 = 11 := by decide
theorem xk_b_12 : (Int8.ofInt 12).toInt32 = 12 := by decide
theorem xk_b_13 : (Int8.ofInt 13).toInt32 = 13 := by decide
theorem xk_b_14 : (Int8.ofInt 14).toInt32 = 14 := by decide
theorem xk_b_15 : (Int8.ofInt 15).toInt32 = 15 := by decide
theorem xk_b_16 : (Int8.ofInt 16).toInt32 = 16 := by decide
theorem xk_b_19 : (Int8.ofInt 19).toInt32 = 19 := by decide
theorem xk_b_20 : (Int8.ofInt 20).toInt32 = 20 := by decide
theorem xk_b_22 : (Int8.ofInt 22).toInt32 = 22 := by decide
theorem xk_b_23 : (Int8.ofInt 23).toInt32 = 23 := by decide
theorem xk_b_30 : (Int8.ofInt 30).toInt32 = 30 := by decide
theorem xk_b_32 : (Int8.ofInt 32).toInt32 = 32 := by decide
theorem xk_b_40 : (Int8.ofInt 40).toInt32 = 40 := by decide
theorem xk_b_42 : (Int8.ofInt 42).toInt32 = 42 := by decide
theorem xk_b_45 : (Int8.ofInt 45).toInt32 = 45 := by decide
theorem xk_b_46 : (Int8.ofInt 46).toInt32 = 46 := by decide
theorem xk_b_48 : (Int8.ofInt 48).toInt32 = 48 := by decide
theorem xk_b_57 : (Int8.ofInt 57).toInt32 = 57 := by decide
theorem xk_b_59 : (Int8.ofInt 59).toInt32 = 59 := by decide
theorem xk_b_60 : (Int8.ofInt 60).toInt32 = 60 := by decide
theorem xk_b_61 : (Int8.ofInt 61).toInt32 = 61 := by decide
theorem xk_b_64 : (Int8.ofInt 64).toInt32 = 64 := by decide
theorem xk_b_80 : (Int8.ofInt 80).toInt32 = 80 := by decide
theorem xk_b_97 : (Int8.ofInt 97).toInt32 = 97 := by decide
theorem xk_b_99 : (Int8.ofInt 99).toInt32 = 99 := by decide
theorem xk_b_100 : (Int8.ofInt 100).toInt32 = 100 := by decide
theorem xk_b_126 : (Int8.ofInt 126).toInt32 = 126 := by decide
theorem xk_b_127 : (Int8.ofInt 127).toInt32 = 127 := by decide
theorem xk_i_m2 : Int32.ofInt (-2) = (-2) := by decide
theorem xk_i_m1 : Int32.ofInt (-1) = (-1) := by decide
theorem xk_i_0 : Int32.ofInt 0 = 0 := by decide
theorem xk_i_1 : Int32.ofInt 1 = 1 := by decide
theorem xk_i_2 : Int32.ofInt 2 = 2 := by decide
theorem xk_i_3 : Int32.ofInt 3 = 3 := by decide
theorem xk_i_4 : Int32.ofInt 4 = 4 := by decide
theorem xk_i_5 : Int32.ofInt 5 = 5 := by decide
theorem xk_s_m1004 : (Int16.ofInt (-1004)).toInt32 = (-1004) := by decide
theorem xk_s_m1003 : (Int16.ofInt (-1003)).toInt32 = (-1003) := by decide
theorem xk_s_m1002 : (Int16.ofInt (-1002)).toInt32 = (-1002) := by decide
theorem xk_s_m1001 : (Int16.ofInt (-1001)).toInt32 = (-1001) := by decide
theorem xk_s_m1000 : (Int16.ofInt (-1000)).toInt32 = (-1000) := by decide
theorem xk_s_200 : (Int16.ofInt 200).toInt32 = 200 := by decide
theorem xk_s_500 : (Int16.ofInt 500).toInt32 = 500 := by decide
theorem xk_s_1000 : (Int16.ofInt 1000).toInt32 = 1000 := by decide
theorem xk_s_2001 : (Int16.ofInt 2001).toInt32 = 2001 := by decide
theorem xk_l_0 : Int64.ofNat ((0 : Fin 2) : Nat) = 0 := by decide
theorem xk_l_1 : Int64.ofNat ((1 : Fin 2) : Nat) = 1 := by decide
theorem pnJ13 : plainName RJ13 = true := by decide +kernel
theorem pnL : plainName RL = true := by decide +kernel
theorem pnX0 : plainName RX0 = true := by decide +kernel
theorem pnX1 : plainName RX1 = true := by decide +kernel
theorem pnX2 : plainName RX2 = true := by decide +kernel
theorem pnX3 : plainName RX3 = true := by decide +kernel
theorem pnX4 : plainName RX4 = true := by decide +kernel
theorem pnX5 : plainName RX5 = true := by decide +kernel
theorem pnX6 : plainName RX6 = true := by decide +kernel
theorem pnX7 : plainName RX7 = true := by decide +kernel
theorem pnX8 : plainName RX8 = true := by decide +kernel
theorem uwX0 : ∀ w ∈ u_ws RX0 TX0 5, w ∈ tblG := by
  intro w hw
  refine List.mem_filter.mpr ⟨?_, ?_⟩
  · revert w; decide +kernel
  · revert w; decide +kernel
theorem uwX1 : ∀ w ∈ u_ws RX1 TX1 4, w ∈ tblG := by
  intro w hw
  refine List.mem_filter.mpr ⟨?_, ?_⟩
  · revert w; decide +kernel
  · revert w; decide +kernel
theorem uwX2 : ∀ w ∈ u_ws RX2 TX2 2, w ∈ tblG := by
  intro w hw
  refine List.mem_filter.mpr ⟨?_, ?_⟩
  · revert w; decide +kernel
  · revert w; decide +kernel
theorem uwX3 : ∀ w ∈ u_ws RX3 TX3 3, w ∈ tblG := by
  intro w hw
  refine List.mem_filter.mpr ⟨?_, ?_⟩
  · revert w; decide +kernel
  · revert w; decide +kernel
theorem uwX4 : ∀ w ∈ u_ws RX4 TX4 4, w ∈ tblG := by
  intro w hw
  refine List.mem_filter.mpr ⟨?_, ?_⟩
  · revert w; decide +kernel
  · revert w; decide +kernel
theorem uwX5 : ∀ w ∈ u_ws RX5 TX5 4, w ∈ tblG := by
  intro w hw
  refine List.mem_filter.mpr ⟨?_, ?_⟩
  · revert w; decide +kernel
  · revert w; decide +kernel
theorem uwX6 : ∀ w ∈ u_ws RX6 TX6 7, w ∈ tblG := by
  intro w hw
  refine List.mem_filter.mpr ⟨?_, ?_⟩
  · revert w; decide +kernel
  · revert w; decide +kernel
theorem uwX7 : ∀ w ∈ u_ws RX7 TX7 5, w ∈ tblG := by
  intro w hw
  refine List.mem_filter.mpr ⟨?_, ?_⟩
  · revert w; decide +kernel
  · revert w; decide +kernel
theorem uwX8 : ∀ w ∈ u_ws RX8 TX8 5, w ∈ tblG := by
  intro w hw
  refine List.mem_filter.mpr ⟨?_, ?_⟩
  · revert w; decide +kernel
  · revert w; decide +kernel
theorem fl_X0_9 : XF RX0 9 0 0 (.array .int) true := ⟨RX0, TX0, 5, tyX0, rfl, by decide, uwX0, tyX0_ok, nmX0, rfl, rfl, rfl, inG 210 (by decide +kernel) rfl⟩
theorem fl_X0_15 : XF RX0 15 0 1 (.array .int) true := ⟨RX0, TX0, 5, tyX0, rfl, by decide, uwX0, tyX0_ok, nmX0, rfl, rfl, rfl, inG 211 (by decide +kernel) rfl⟩
theorem fl_X0_18 : XF RX0 18 0 2 .int false := ⟨RX0, TX0, 5, tyX0, rfl, by decide, uwX0, tyX0_ok, nmX0, rfl, rfl, rfl, inG 212 (by decide +kernel) rfl⟩
theorem fl_X0_22 : XF RX0 22 4 3 .int false := ⟨RX4, TX4, 4, tyX4, rfl, by decide, uwX4, tyX4_ok, nmX4, rfl, rfl, rfl, inG 107 (by decide +kernel) rfl⟩
theorem fl_X0_27 : XF RX0 27 0 3 .int false := ⟨RX0, TX0, 5, tyX0, rfl, by decide, uwX0, tyX0_ok, nmX0, rfl, rfl, rfl, inG 213 (by decide +kernel) rfl⟩
theorem fl_X0_28 : XF RX0 28 0 4 .long false := ⟨RX0, TX0, 5, tyX0, rfl, by decide, uwX0, tyX0_ok, nmX0, rfl, rfl, rfl, inG 214 (by decide +kernel) rfl⟩
theorem fl_X1_9 : XF RX1 9 1 0 .int false := ⟨RX1, TX1, 4, tyX1, rfl, by decide, uwX1, tyX1_ok, nmX1, rfl, rfl, rfl, inG 124 (by decide +kernel) rfl⟩
theorem fl_X1_15 : XF RX1 15 1 1 .int false := ⟨RX1, TX1, 4, tyX1, rfl, by decide, uwX1, tyX1_ok, nmX1, rfl, rfl, rfl, inG 126 (by decide +kernel) rfl⟩
theorem fl_X1_18 : XF RX1 18 1 2 .int false := ⟨RX1, TX1, 4, tyX1, rfl, by decide, uwX1, tyX1_ok, nmX1, rfl, rfl, rfl, inG 128 (by decide +kernel) rfl⟩
theorem fl_X1_21 : XF RX1 21 1 3 .int false := ⟨RX1, TX1, 4, tyX1, rfl, by decide, uwX1, tyX1_ok, nmX1, rfl, rfl, rfl, inG 130 (by decide +kernel) rfl⟩
theorem fl_X2_9 : XF RX2 9 2 1 .int false := ⟨RX2, TX2, 2, tyX2, rfl, by decide, uwX2, tyX2_ok, nmX2, rfl, rfl, rfl, inG 86 (by decide +kernel) rfl⟩
theorem fl_X2_15 : XF RX2 15 2 0 .int false := ⟨RX2, TX2, 2, tyX2, rfl, by decide, uwX2, tyX2_ok, nmX2, rfl, rfl, rfl, inG 83 (by decide +kernel) rfl⟩
theorem fl_X3_11 : XF RX3 11 3 0 (.array (.object "FlashWheelReader$State")) true := ⟨RX3, TX3, 3, tyX3, rfl, by decide, uwX3, tyX3_ok, nmX3, rfl, rfl, rfl, inG 167 (by decide +kernel) rfl⟩
theorem fl_X3_18 : XF RX3 18 3 1 .int false := ⟨RX3, TX3, 3, tyX3, rfl, by decide, uwX3, tyX3_ok, nmX3, rfl, rfl, rfl, inG 168 (by decide +kernel) rfl⟩
theorem fl_X3_34 : XF RX3 34 3 2 .int false := ⟨RX3, TX3, 3, tyX3, rfl, by decide, uwX3, tyX3_ok, nmX3, rfl, rfl, rfl, inG 169 (by decide +kernel) rfl⟩
theorem fl_X4_9 : XF RX4 9 4 0 (.array .int) true := ⟨RX4, TX4, 4, tyX4, rfl, by decide, uwX4, tyX4_ok, nmX4, rfl, rfl, rfl, inG 100 (by decide +kernel) rfl⟩
theorem fl_X4_15 : XF RX4 15 4 1 (.array .int) true := ⟨RX4, TX4, 4, tyX4, rfl, by decide, uwX4, tyX4_ok, nmX4, rfl, rfl, rfl, inG 102 (by decide +kernel) rfl⟩
theorem fl_X4_18 : XF RX4 18 4 3 .int false := ⟨RX4, TX4, 4, tyX4, rfl, by decide, uwX4, tyX4_ok, nmX4, rfl, rfl, rfl, inG 106 (by decide +kernel) rfl⟩
theorem fl_X4_26 : XF RX4 26 4 2 .int false := ⟨RX4, TX4, 4, tyX4, rfl, by decide, uwX4, tyX4_ok, nmX4, rfl, rfl, rfl, inG 104 (by decide +kernel) rfl⟩
theorem fl_X5_10 : XF RX5 10 5 0 (.object "FlashWheelReader$Wheel") true := ⟨RX5, TX5, 4, tyX5, rfl, by decide, uwX5, tyX5_ok, nmX5, rfl, rfl, rfl, inG 141 (by decide +kernel) rfl⟩
theorem fl_X5_19 : XF RX5 19 5 1 (.object "FlashWheelReader$Flashes") true := ⟨RX5, TX5, 4, tyX5, rfl, by decide, uwX5, tyX5_ok, nmX5, rfl, rfl, rfl, inG 143 (by decide +kernel) rfl⟩
theorem fl_X5_26 : XF RX5 26 5 2 (.object "FlashWheelReader$Readings") true := ⟨RX5, TX5, 4, tyX5, rfl, by decide, uwX5, tyX5_ok, nmX5, rfl, rfl, rfl, inG 145 (by decide +kernel) rfl⟩
theorem fl_X5_33 : XF RX5 33 5 3 (.object "FlashWheelReader$Disc") true := ⟨RX5, TX5, 4, tyX5, rfl, by decide, uwX5, tyX5_ok, nmX5, rfl, rfl, rfl, inG 147 (by decide +kernel) rfl⟩
theorem fl_X5_74 : XF RX5 74 2 0 .int false := ⟨RX2, TX2, 2, tyX2, rfl, by decide, uwX2, tyX2_ok, nmX2, rfl, rfl, rfl, inG 84 (by decide +kernel) rfl⟩
theorem fl_X5_78 : XF RX5 78 2 1 .int false := ⟨RX2, TX2, 2, tyX2, rfl, by decide, uwX2, tyX2_ok, nmX2, rfl, rfl, rfl, inG 87 (by decide +kernel) rfl⟩
theorem fl_X6_9 : XF RX6 9 6 0 (.array .int) true := ⟨RX6, TX6, 7, tyX6, rfl, by decide, uwX6, tyX6_ok, nmX6, rfl, rfl, rfl, inG 47 (by decide +kernel) rfl⟩
theorem fl_X6_15 : XF RX6 15 6 1 (.array .int) true := ⟨RX6, TX6, 7, tyX6, rfl, by decide, uwX6, tyX6_ok, nmX6, rfl, rfl, rfl, inG 48 (by decide +kernel) rfl⟩
theorem fl_X6_18 : XF RX6 18 6 2 (.array .int) true := ⟨RX6, TX6, 7, tyX6, rfl, by decide, uwX6, tyX6_ok, nmX6, rfl, rfl, rfl, inG 49 (by decide +kernel) rfl⟩
theorem fl_X6_21 : XF RX6 21 6 3 .int false := ⟨RX6, TX6, 7, tyX6, rfl, by decide, uwX6, tyX6_ok, nmX6, rfl, rfl, rfl, inG 50 (by decide +kernel) rfl⟩
theorem fl_X6_33 : XF RX6 33 6 4 .int false := ⟨RX6, TX6, 7, tyX6, rfl, by decide, uwX6, tyX6_ok, nmX6, rfl, rfl, rfl, inG 53 (by decide +kernel) rfl⟩
theorem fl_X6_36 : XF RX6 36 6 5 .int false := ⟨RX6, TX6, 7, tyX6, rfl, by decide, uwX6, tyX6_ok, nmX6, rfl, rfl, rfl, inG 56 (by decide +kernel) rfl⟩
theorem fl_X6_39 : XF RX6 39 6 6 .int false := ⟨RX6, TX6, 7, tyX6, rfl, by decide, uwX6, tyX6_ok, nmX6, rfl, rfl, rfl, inG 59 (by decide +kernel) rfl⟩
theorem fl_X7_9 : XF RX7 9 7 0 (.array .int) true := ⟨RX7, TX7, 5, tyX7, rfl, by decide, uwX7, tyX7_ok, nmX7, rfl, rfl, rfl, inG 184 (by decide +kernel) rfl⟩
theorem fl_X7_15 : XF RX7 15 7 3 .int false := ⟨RX7, TX7, 5, tyX7, rfl, by decide, uwX7, tyX7_ok, nmX7, rfl, rfl, rfl, inG 188 (by decide +kernel) rfl⟩
theorem fl_X7_19 : XF RX7 19 7 2 .int false := ⟨RX7, TX7, 5, tyX7, rfl, by decide, uwX7, tyX7_ok, nmX7, rfl, rfl, rfl, inG 186 (by decide +kernel) rfl⟩
theorem fl_X7_26 : XF RX7 26 7 1 .int false := ⟨RX7, TX7, 5, tyX7, rfl, by decide, uwX7, tyX7_ok, nmX7, rfl, rfl, rfl, inG 185 (by decide +kernel) rfl⟩
theorem fl_X7_46 : XF RX7 46 6 4 .int false := ⟨RX6, TX6, 7, tyX6, rfl, by decide, uwX6, tyX6_ok, nmX6, rfl, rfl, rfl, inG 54 (by decide +kernel) rfl⟩
theorem fl_X7_53 : XF RX7 53 6 5 .int false := ⟨RX6, TX6, 7, tyX6, rfl, by decide, uwX6, tyX6_ok, nmX6, rfl, rfl, rfl, inG 57 (by decide +kernel) rfl⟩
theorem fl_X7_60 : XF RX7 60 6 3 .int false := ⟨RX6, TX6, 7, tyX6, rfl, by decide, uwX6, tyX6_ok, nmX6, rfl, rfl, rfl, inG 51 (by decide +kernel) rfl⟩
theorem fl_X7_80 : XF RX7 80 7 4 .int false := ⟨RX7, TX7, 5, tyX7, rfl, by decide, uwX7, tyX7_ok, nmX7, rfl, rfl, rfl, inG 190 (by decide +kernel) rfl⟩
theorem fl_X8_10 : XF RX8 10 8 0 (.object "FlashWheelReader$State") true := ⟨RX8, TX8, 5, tyX8, rfl, by decide, uwX8, tyX8_ok, nmX8, rfl, rfl, rfl, inG 226 (by decide +kernel) rfl⟩
theorem fl_X8_19 : XF RX8 19 8 1 (.object "FlashWheelReader$History") true := ⟨RX8, TX8, 5, tyX8, rfl, by decide, uwX8, tyX8_ok, nmX8, rfl, rfl, rfl, inG 227 (by decide +kernel) rfl⟩
theorem fl_X8_26 : XF RX8 26 8 2 (.object "FlashWheelReader$WheelText") true := ⟨RX8, TX8, 5, tyX8, rfl, by decide, uwX8, tyX8_ok, nmX8, rfl, rfl, rfl, inG 228 (by decide +kernel) rfl⟩
theorem fl_X8_33 : XF RX8 33 8 3 (.object "FlashWheelReader$Wheel") true := ⟨RX8, TX8, 5, tyX8, rfl, by decide, uwX8, tyX8_ok, nmX8, rfl, rfl, rfl, inG 229 (by decide +kernel) rfl⟩
theorem fl_X8_40 : XF RX8 40 8 4 (.object "FlashWheelReader$Candidates") true := ⟨RX8, TX8, 5, tyX8, rfl, by decide, uwX8, tyX8_ok, nmX8, rfl, rfl, rfl, inG 230 (by decide +kernel) rfl⟩
theorem fl_X8_48 : XF RX8 48 7 2 .int false := ⟨RX7, TX7, 5, tyX7, rfl, by decide, uwX7, tyX7_ok, nmX7, rfl, rfl, rfl, inG 187 (by decide +kernel) rfl⟩
theorem fl_X8_60 : XF RX8 60 7 4 .int false := ⟨RX7, TX7, 5, tyX7, rfl, by decide, uwX7, tyX7_ok, nmX7, rfl, rfl, rfl, inG 189 (by decide +kernel) rfl⟩
theorem fl_X8_67 : XF RX8 67 5 0 (.object "FlashWheelReader$Wheel") true := ⟨RX5, TX5, 4, tyX5, rfl, by decide, uwX5, tyX5_ok, nmX5, rfl, rfl, rfl, inG 142 (by decide +kernel) rfl⟩
theorem fl_X8_74 : XF RX8 74 6 3 .int false := ⟨RX6, TX6, 7, tyX6, rfl, by decide, uwX6, tyX6_ok, nmX6, rfl, rfl, rfl, inG 52 (by decide +kernel) rfl⟩
theorem fl_X8_96 : XF RX8 96 6 4 .int false := ⟨RX6, TX6, 7, tyX6, rfl, by decide, uwX6, tyX6_ok, nmX6, rfl, rfl, rfl, inG 55 (by decide +kernel) rfl⟩
theorem fl_X8_109 : XF RX8 109 6 6 .int false := ⟨RX6, TX6, 7, tyX6, rfl, by decide, uwX6, tyX6_ok, nmX6, rfl, rfl, rfl, inG 60 (by decide +kernel) rfl⟩
theorem fl_X8_125 : XF RX8 125 5 1 (.object "FlashWheelReader$Flashes") true := ⟨RX5, TX5, 4, tyX5, rfl, by decide, uwX5, tyX5_ok, nmX5, rfl, rfl, rfl, inG 144 (by decide +kernel) rfl⟩
theorem fl_X8_129 : XF RX8 129 2 0 .int false := ⟨RX2, TX2, 2, tyX2, rfl, by decide, uwX2, tyX2_ok, nmX2, rfl, rfl, rfl, inG 85 (by decide +kernel) rfl⟩
theorem fl_X8_134 : XF RX8 134 2 1 .int false := ⟨RX2, TX2, 2, tyX2, rfl, by decide, uwX2, tyX2_ok, nmX2, rfl, rfl, rfl, inG 88 (by decide +kernel) rfl⟩
theorem fl_X8_169 : XF RX8 169 6 5 .int false := ⟨RX6, TX6, 7, tyX6, rfl, by decide, uwX6, tyX6_ok, nmX6, rfl, rfl, rfl, inG 58 (by decide +kernel) rfl⟩
theorem fl_X8_181 : XF RX8 181 5 2 (.object "FlashWheelReader$Readings") true := ⟨RX5, TX5, 4, tyX5, rfl, by decide, uwX5, tyX5_ok, nmX5, rfl, rfl, rfl, inG 146 (by decide +kernel) rfl⟩
theorem fl_X8_190 : XF RX8 190 4 2 .int false := ⟨RX4, TX4, 4, tyX4, rfl, by decide, uwX4, tyX4_ok, nmX4, rfl, rfl, rfl, inG 105 (by decide +kernel) rfl⟩
theorem fl_X8_193 : XF RX8 193 4 0 (.array .int) true := ⟨RX4, TX4, 4, tyX4, rfl, by decide, uwX4, tyX4_ok, nmX4, rfl, rfl, rfl, inG 101 (by decide +kernel) rfl⟩
theorem fl_X8_200 : XF RX8 200 4 1 (.array .int) true := ⟨RX4, TX4, 4, tyX4, rfl, by decide, uwX4, tyX4_ok, nmX4, rfl, rfl, rfl, inG 103 (by decide +kernel) rfl⟩
theorem fl_X8_208 : XF RX8 208 4 3 .int false := ⟨RX4, TX4, 4, tyX4, rfl, by decide, uwX4, tyX4_ok, nmX4, rfl, rfl, rfl, inG 108 (by decide +kernel) rfl⟩
theorem fl_X8_226 : XF RX8 226 5 3 (.object "FlashWheelReader$Disc") true := ⟨RX5, TX5, 4, tyX5, rfl, by decide, uwX5, tyX5_ok, nmX5, rfl, rfl, rfl, inG 148 (by decide +kernel) rfl⟩
theorem fl_X8_230 : XF RX8 230 1 0 .int false := ⟨RX1, TX1, 4, tyX1, rfl, by decide, uwX1, tyX1_ok, nmX1, rfl, rfl, rfl, inG 125 (by decide +kernel) rfl⟩
theorem fl_X8_233 : XF RX8 233 1 1 .int false := ⟨RX1, TX1, 4, tyX1, rfl, by decide, uwX1, tyX1_ok, nmX1, rfl, rfl, rfl, inG 127 (by decide +kernel) rfl⟩
theorem fl_X8_241 : XF RX8 241 1 3 .int false := ⟨RX1, TX1, 4, tyX1, rfl, by decide, uwX1, tyX1_ok, nmX1, rfl, rfl, rfl, inG 131 (by decide +kernel) rfl⟩
theorem fl_X8_242 : XF RX8 242 1 2 .int false := ⟨RX1, TX1, 4, tyX1, rfl, by decide, uwX1, tyX1_ok, nmX1, rfl, rfl, rfl, inG 129 (by decide +kernel) rfl⟩
theorem fl_X8_267 : XF RX8 267 3 2 .int false := ⟨RX3, TX3, 3, tyX3, rfl, by decide, uwX3, tyX3_ok, nmX3, rfl, rfl, rfl, inG 170 (by decide +kernel) rfl⟩
theorem dd_J13_bitCount_95d88 : XD yJ13_bitCount_95d88 cJ13_bitCount_95d88 2 (some .int) 1 := ⟨inG 582 (by decide +kernel) rfl, inG 22 (by decide +kernel) rfl, by decide +kernel, by decide +kernel, by decide +kernel⟩
theorem ds_J13_bitCount_95d88 : Cond.static yJ13_bitCount_95d88 ∈ tblG := inG 581 (by decide +kernel) rfl
theorem dd_J9_abs_0f7a4 : XD yJ9_abs_0f7a4 cJ9_abs_0f7a4 1 (some .int) 1 := ⟨inG 412 (by decide +kernel) rfl, inG 23 (by decide +kernel) rfl, by decide +kernel, by decide +kernel, by decide +kernel⟩
theorem ds_J9_abs_0f7a4 : Cond.static yJ9_abs_0f7a4 ∈ tblG := inG 411 (by decide +kernel) rfl
theorem dd_J9_max_7cf53 : XD yJ9_max_7cf53 cJ9_max_7cf53 2 (some .int) 2 := ⟨inG 626 (by decide +kernel) rfl, inG 23 (by decide +kernel) rfl, by decide +kernel, by decide +kernel, by decide +kernel⟩
theorem ds_J9_max_7cf53 : Cond.static yJ9_max_7cf53 ∈ tblG := inG 625 (by decide +kernel) rfl
theorem dd_L_cell : XD yL_cell cL_cell 2 (some .int) 2 := ⟨inG 441 (by decide +kernel) rfl, inG 12 (by decide +kernel) rfl, by decide +kernel, by decide +kernel, by decide +kernel⟩
theorem ds_L_cell : Cond.static yL_cell ∈ tblG := inG 440 (by decide +kernel) rfl
theorem dd_L_fits : XD yL_fits cL_fits 6 (some .boolean) 4 := ⟨inG 597 (by decide +kernel) rfl, inG 12 (by decide +kernel) rfl, by decide +kernel, by decide +kernel, by decide +kernel⟩
theorem ds_L_fits : Cond.static yL_fits ∈ tblG := inG 596 (by decide +kernel) rfl
theorem dd_L_flashes : XD yL_flashes cL_flashes 17 (some .boolean) 7 := ⟨inG 551 (by decide +kernel) rfl, inG 12 (by decide +kernel) rfl, by decide +kernel, by decide +kernel, by decide +kernel⟩
theorem ds_L_flashes : Cond.static yL_flashes ∈ tblG := inG 550 (by decide +kernel) rfl
theorem dd_L_isSame : XD yL_isSame cL_isSame 5 (some .boolean) 3 := ⟨inG 548 (by decide +kernel) rfl, inG 12 (by decide +kernel) rfl, by decide +kernel, by decide +kernel, by decide +kernel⟩
theorem ds_L_isSame : Cond.static yL_isSame ∈ tblG := inG 547 (by decide +kernel) rfl
theorem dd_L_low : XD yL_low cL_low 2 (some .int) 2 := ⟨inG 446 (by decide +kernel) rfl, inG 12 (by decide +kernel) rfl, by decide +kernel, by decide +kernel, by decide +kernel⟩
theorem ds_L_low : Cond.static yL_low ∈ tblG := inG 445 (by decide +kernel) rfl
theorem dd_L_measure : XD yL_measure cL_measure 3 (some .int) 2 := ⟨inG 545 (by decide +kernel) rfl, inG 12 (by decide +kernel) rfl, by decide +kernel, by decide +kernel, by decide +kernel⟩
theorem ds_L_measure : Cond.static yL_measure ∈ tblG := inG 544 (by decide +kernel) rfl
theorem dd_L_mod : XD yL_mod cL_mod 2 (some .int) 2 := ⟨inG 450 (by decide +kernel) rfl, inG 12 (by decide +kernel) rfl, by decide +kernel, by decide +kernel, by decide +kernel⟩
theorem ds_L_mod : Cond.static yL_mod ∈ tblG := inG 449 (by decide +kernel) rfl
theorem dd_L_readings : XD yL_readings cL_readings 15 (some .boolean) 3 := ⟨inG 593 (by decide +kernel) rfl, inG 12 (by decide +kernel) rfl, by decide +kernel, by decide +kernel, by decide +kernel⟩
theorem ds_L_readings : Cond.static yL_readings ∈ tblG := inG 592 (by decide +kernel) rfl
theorem dd_L_speeds : XD yL_speeds cL_speeds 9 (some .boolean) 6 := ⟨inG 518 (by decide +kernel) rfl, inG 12 (by decide +kernel) rfl, by decide +kernel, by decide +kernel, by decide +kernel⟩
theorem ds_L_speeds : Cond.static yL_speeds ∈ tblG := inG 517 (by decide +kernel) rfl
theorem dd_L_step : XD yL_step cL_step 8 (some .int) 4 := ⟨inG 557 (by decide +kernel) rfl, inG 12 (by decide +kernel) rfl, by decide +kernel, by decide +kernel, by decide +kernel⟩
theorem ds_L_step : Cond.static yL_step ∈ tblG := inG 556 (by decide +kernel) rfl
theorem dd_L_turn : XD yL_turn cL_turn 9 (some .int) 6 := ⟨inG 554 (by decide +kernel) rfl, inG 12 (by decide +kernel) rfl, by decide +kernel, by decide +kernel, by decide +kernel⟩
theorem ds_L_turn : Cond.static yL_turn ∈ tblG := inG 553 (by decide +kernel) rfl
theorem dd_L_wheel : XD yL_wheel cL_wheel 10 (some .boolean) 4 := ⟨inG 453 (by decide +kernel) rfl, inG 12 (by decide +kernel) rfl, by decide +kernel, by decide +kernel, by decide +kernel⟩
theorem ds_L_wheel : Cond.static yL_wheel ∈ tblG := inG 452 (by decide +kernel) rfl
theorem dd_X0_countByRemainder : XD yX0_countByRemainder cX0_countByRemainder 3 none 0 := ⟨inG 617 (by decide +kernel) rfl, inG 21 (by decide +kernel) rfl, by decide +kernel, by decide +kernel, by decide +kernel⟩
theorem dv_X0_countByRemainder : XDV yX0_countByRemainder 0 := ⟨inG 615 (by decide +kernel) rfl, inG 616 (by decide +kernel) rfl, ⟨TX0, 5, rfl⟩⟩
theorem dd_X0_find : XD yX0_find cX0_find 5 none 3 := ⟨inG 379 (by decide +kernel) rfl, inG 21 (by decide +kernel) rfl, by decide +kernel, by decide +kernel, by decide +kernel⟩
theorem dv_X0_find : XDV yX0_find 0 := ⟨inG 377 (by decide +kernel) rfl, inG 378 (by decide +kernel) rfl, ⟨TX0, 5, rfl⟩⟩
theorem dd_X0_has : XD yX0_has cX0_has 2 (some .boolean) 1 := ⟨inG 393 (by decide +kernel) rfl, inG 21 (by decide +kernel) rfl, by decide +kernel, by decide +kernel, by decide +kernel⟩
theorem dv_X0_has : XDV yX0_has 0 := ⟨inG 391 (by decide +kernel) rfl, inG 392 (by decide +kernel) rfl, ⟨TX0, 5, rfl⟩⟩
theorem dd_X0_inOrder : XD yX0_inOrder cX0_inOrder 4 (some .int) 1 := ⟨inG 605 (by decide +kernel) rfl, inG 21 (by decide +kernel) rfl, by decide +kernel, by decide +kernel, by decide +kernel⟩
theorem dv_X0_inOrder : XDV yX0_inOrder 0 := ⟨inG 603 (by decide +kernel) rfl, inG 604 (by decide +kernel) rfl, ⟨TX0, 5, rfl⟩⟩
theorem dd_X0_init : XD yX0_init cX0_init 1 none 0 := ⟨inG 208 (by decide +kernel) rfl, inG 21 (by decide +kernel) rfl, by decide +kernel, by decide +kernel, by decide +kernel⟩
theorem di_X0_init : Cond.instanceMethod yX0_init ∈ tblG := inG 207 (by decide +kernel) rfl
theorem dd_X0_nearestTo : XD yX0_nearestTo cX0_nearestTo 6 (some .int) 1 := ⟨inG 409 (by decide +kernel) rfl, inG 21 (by decide +kernel) rfl, by decide +kernel, by decide +kernel, by decide +kernel⟩
theorem dv_X0_nearestTo : XDV yX0_nearestTo 0 := ⟨inG 407 (by decide +kernel) rfl, inG 408 (by decide +kernel) rfl, ⟨TX0, 5, rfl⟩⟩
theorem dd_X0_number : XD yX0_number cX0_number 3 (some .int) 0 := ⟨inG 389 (by decide +kernel) rfl, inG 21 (by decide +kernel) rfl, by decide +kernel, by decide +kernel, by decide +kernel⟩
theorem dv_X0_number : XDV yX0_number 0 := ⟨inG 387 (by decide +kernel) rfl, inG 388 (by decide +kernel) rfl, ⟨TX0, 5, rfl⟩⟩
theorem dd_X0_restOf : XD yX0_restOf cX0_restOf 5 (some .int) 1 := ⟨inG 623 (by decide +kernel) rfl, inG 21 (by decide +kernel) rfl, by decide +kernel, by decide +kernel, by decide +kernel⟩
theorem dv_X0_restOf : XDV yX0_restOf 0 := ⟨inG 621 (by decide +kernel) rfl, inG 622 (by decide +kernel) rfl, ⟨TX0, 5, rfl⟩⟩
theorem dd_X1_copyFrom : XD yX1_copyFrom cX1_copyFrom 2 none 1 := ⟨inG 283 (by decide +kernel) rfl, inG 18 (by decide +kernel) rfl, by decide +kernel, by decide +kernel, by decide +kernel⟩
theorem dv_X1_copyFrom : XDV yX1_copyFrom 1 := ⟨inG 281 (by decide +kernel) rfl, inG 282 (by decide +kernel) rfl, ⟨TX1, 4, rfl⟩⟩
theorem dd_X1_init : XD yX1_init cX1_init 1 none 0 := ⟨inG 122 (by decide +kernel) rfl, inG 18 (by decide +kernel) rfl, by decide +kernel, by decide +kernel, by decide +kernel⟩
theorem di_X1_init : Cond.instanceMethod yX1_init ∈ tblG := inG 121 (by decide +kernel) rfl
theorem dd_X1_isOpenAt : XD yX1_isOpenAt cX1_isOpenAt 2 (some .boolean) 1 := ⟨inG 436 (by decide +kernel) rfl, inG 18 (by decide +kernel) rfl, by decide +kernel, by decide +kernel, by decide +kernel⟩
theorem dv_X1_isOpenAt : XDV yX1_isOpenAt 1 := ⟨inG 434 (by decide +kernel) rfl, inG 435 (by decide +kernel) rfl, ⟨TX1, 4, rfl⟩⟩
theorem dd_X1_openings : XD yX1_openings cX1_openings 3 (some .int) 0 := ⟨inG 428 (by decide +kernel) rfl, inG 18 (by decide +kernel) rfl, by decide +kernel, by decide +kernel, by decide +kernel⟩
theorem dv_X1_openings : XDV yX1_openings 1 := ⟨inG 426 (by decide +kernel) rfl, inG 427 (by decide +kernel) rfl, ⟨TX1, 4, rfl⟩⟩
theorem dd_X1_opensAt : XD yX1_opensAt cX1_opensAt 2 (some .boolean) 1 := ⟨inG 432 (by decide +kernel) rfl, inG 18 (by decide +kernel) rfl, by decide +kernel, by decide +kernel, by decide +kernel⟩
theorem dv_X1_opensAt : XDV yX1_opensAt 1 := ⟨inG 430 (by decide +kernel) rfl, inG 431 (by decide +kernel) rfl, ⟨TX1, 4, rfl⟩⟩
theorem dd_X2_copyFrom : XD yX2_copyFrom cX2_copyFrom 2 none 1 := ⟨inG 274 (by decide +kernel) rfl, inG 16 (by decide +kernel) rfl, by decide +kernel, by decide +kernel, by decide +kernel⟩
theorem dv_X2_copyFrom : XDV yX2_copyFrom 2 := ⟨inG 272 (by decide +kernel) rfl, inG 273 (by decide +kernel) rfl, ⟨TX2, 2, rfl⟩⟩
theorem dd_X2_init : XD yX2_init cX2_init 1 none 0 := ⟨inG 81 (by decide +kernel) rfl, inG 16 (by decide +kernel) rfl, by decide +kernel, by decide +kernel, by decide +kernel⟩
theorem di_X2_init : Cond.instanceMethod yX2_init ∈ tblG := inG 80 (by decide +kernel) rfl
theorem dd_X2_number : XD yX2_number cX2_number 1 (some .int) 0 := ⟨inG 290 (by decide +kernel) rfl, inG 16 (by decide +kernel) rfl, by decide +kernel, by decide +kernel, by decide +kernel⟩
theorem dv_X2_number : XDV yX2_number 2 := ⟨inG 288 (by decide +kernel) rfl, inG 289 (by decide +kernel) rfl, ⟨TX2, 2, rfl⟩⟩
theorem dd_X2_tickOf : XD yX2_tickOf cX2_tickOf 2 (some .int) 1 := ⟨inG 302 (by decide +kernel) rfl, inG 16 (by decide +kernel) rfl, by decide +kernel, by decide +kernel, by decide +kernel⟩
theorem dv_X2_tickOf : XDV yX2_tickOf 2 := ⟨inG 300 (by decide +kernel) rfl, inG 301 (by decide +kernel) rfl, ⟨TX2, 2, rfl⟩⟩
theorem dd_X3_init : XD yX3_init cX3_init 2 none 0 := ⟨inG 162 (by decide +kernel) rfl, inG 19 (by decide +kernel) rfl, by decide +kernel, by decide +kernel, by decide +kernel⟩
theorem di_X3_init : Cond.instanceMethod yX3_init ∈ tblG := inG 161 (by decide +kernel) rfl
theorem dd_X3_remember : XD yX3_remember cX3_remember 3 none 1 := ⟨inG 255 (by decide +kernel) rfl, inG 19 (by decide +kernel) rfl, by decide +kernel, by decide +kernel, by decide +kernel⟩
theorem dv_X3_remember : XDV yX3_remember 3 := ⟨inG 253 (by decide +kernel) rfl, inG 254 (by decide +kernel) rfl, ⟨TX3, 3, rfl⟩⟩
theorem dd_X3_slotAt : XD yX3_slotAt cX3_slotAt 2 (some (.object "FlashWheelReader$State")) 1 := ⟨inG 259 (by decide +kernel) rfl, inG 19 (by decide +kernel) rfl, by decide +kernel, by decide +kernel, by decide +kernel⟩
theorem dv_X3_slotAt : XDV yX3_slotAt 3 := ⟨inG 258 (by decide +kernel) rfl, inG 0 (by decide +kernel) rfl, ⟨TX3, 3, rfl⟩⟩
theorem dd_X4_add : XD yX4_add cX4_add 3 none 2 := ⟨inG 356 (by decide +kernel) rfl, inG 17 (by decide +kernel) rfl, by decide +kernel, by decide +kernel, by decide +kernel⟩
theorem dv_X4_add : XDV yX4_add 4 := ⟨inG 354 (by decide +kernel) rfl, inG 355 (by decide +kernel) rfl, ⟨TX4, 4, rfl⟩⟩
theorem dd_X4_allFit : XD yX4_allFit cX4_allFit 5 (some .boolean) 3 := ⟨inG 383 (by decide +kernel) rfl, inG 17 (by decide +kernel) rfl, by decide +kernel, by decide +kernel, by decide +kernel⟩
theorem dv_X4_allFit : XDV yX4_allFit 4 := ⟨inG 381 (by decide +kernel) rfl, inG 382 (by decide +kernel) rfl, ⟨TX4, 4, rfl⟩⟩
theorem dd_X4_copyFrom : XD yX4_copyFrom cX4_copyFrom 2 none 1 := ⟨inG 278 (by decide +kernel) rfl, inG 17 (by decide +kernel) rfl, by decide +kernel, by decide +kernel, by decide +kernel⟩
theorem dv_X4_copyFrom : XDV yX4_copyFrom 4 := ⟨inG 276 (by decide +kernel) rfl, inG 277 (by decide +kernel) rfl, ⟨TX4, 4, rfl⟩⟩
theorem dd_X4_init : XD yX4_init cX4_init 1 none 0 := ⟨inG 98 (by decide +kernel) rfl, inG 17 (by decide +kernel) rfl, by decide +kernel, by decide +kernel, by decide +kernel⟩
theorem di_X4_init : Cond.instanceMethod yX4_init ∈ tblG := inG 97 (by decide +kernel) rfl
theorem dd_X5_copyFrom : XD yX5_copyFrom cX5_copyFrom 2 none 1 := ⟨inG 263 (by decide +kernel) rfl, inG 14 (by decide +kernel) rfl, by decide +kernel, by decide +kernel, by decide +kernel⟩
theorem dv_X5_copyFrom : XDV yX5_copyFrom 5 := ⟨inG 261 (by decide +kernel) rfl, inG 262 (by decide +kernel) rfl, ⟨TX5, 4, rfl⟩⟩
theorem dd_X5_countSeeming : XD yX5_countSeeming cX5_countSeeming 8 (some .int) 1 := ⟨inG 589 (by decide +kernel) rfl, inG 14 (by decide +kernel) rfl, by decide +kernel, by decide +kernel, by decide +kernel⟩
theorem dv_X5_countSeeming : XDV yX5_countSeeming 5 := ⟨inG 587 (by decide +kernel) rfl, inG 588 (by decide +kernel) rfl, ⟨TX5, 4, rfl⟩⟩
theorem dd_X5_differentPictures : XD yX5_differentPictures cX5_differentPictures 1 (some .int) 0 := ⟨inG 574 (by decide +kernel) rfl, inG 14 (by decide +kernel) rfl, by decide +kernel, by decide +kernel, by decide +kernel⟩
theorem dv_X5_differentPictures : XDV yX5_differentPictures 5 := ⟨inG 572 (by decide +kernel) rfl, inG 573 (by decide +kernel) rfl, ⟨TX5, 4, rfl⟩⟩
theorem dd_X5_earliestAlike : XD yX5_earliestAlike cX5_earliestAlike 5 (some .int) 1 := ⟨inG 336 (by decide +kernel) rfl, inG 14 (by decide +kernel) rfl, by decide +kernel, by decide +kernel, by decide +kernel⟩
theorem dv_X5_earliestAlike : XDV yX5_earliestAlike 5 := ⟨inG 334 (by decide +kernel) rfl, inG 335 (by decide +kernel) rfl, ⟨TX5, 4, rfl⟩⟩
theorem dd_X5_init : XD yX5_init cX5_init 1 none 0 := ⟨inG 36 (by decide +kernel) rfl, inG 14 (by decide +kernel) rfl, by decide +kernel, by decide +kernel, by decide +kernel⟩
theorem di_X5_init : Cond.instanceMethod yX5_init ∈ tblG := inG 35 (by decide +kernel) rfl
theorem dd_X6_addCell : XD yX6_addCell cX6_addCell 2 none 1 := ⟨inG 495 (by decide +kernel) rfl, inG 15 (by decide +kernel) rfl, by decide +kernel, by decide +kernel, by decide +kernel⟩
theorem dv_X6_addCell : XDV yX6_addCell 6 := ⟨inG 493 (by decide +kernel) rfl, inG 494 (by decide +kernel) rfl, ⟨TX6, 7, rfl⟩⟩
theorem dd_X6_copyFrom : XD yX6_copyFrom cX6_copyFrom 2 none 1 := ⟨inG 267 (by decide +kernel) rfl, inG 15 (by decide +kernel) rfl, by decide +kernel, by decide +kernel, by decide +kernel⟩
theorem dv_X6_copyFrom : XDV yX6_copyFrom 6 := ⟨inG 265 (by decide +kernel) rfl, inG 266 (by decide +kernel) rfl, ⟨TX6, 7, rfl⟩⟩
theorem dd_X6_empty : XD yX6_empty cX6_empty 1 none 0 := ⟨inG 478 (by decide +kernel) rfl, inG 15 (by decide +kernel) rfl, by decide +kernel, by decide +kernel, by decide +kernel⟩
theorem dv_X6_empty : XDV yX6_empty 6 := ⟨inG 476 (by decide +kernel) rfl, inG 477 (by decide +kernel) rfl, ⟨TX6, 7, rfl⟩⟩
theorem dd_X6_hasChange : XD yX6_hasChange cX6_hasChange 3 (some .boolean) 1 := ⟨inG 530 (by decide +kernel) rfl, inG 15 (by decide +kernel) rfl, by decide +kernel, by decide +kernel, by decide +kernel⟩
theorem dv_X6_hasChange : XDV yX6_hasChange 6 := ⟨inG 528 (by decide +kernel) rfl, inG 529 (by decide +kernel) rfl, ⟨TX6, 7, rfl⟩⟩
theorem dd_X6_hasRoomFor : XD yX6_hasRoomFor cX6_hasRoomFor 2 (some .boolean) 1 := ⟨inG 526 (by decide +kernel) rfl, inG 15 (by decide +kernel) rfl, by decide +kernel, by decide +kernel, by decide +kernel⟩
theorem dv_X6_hasRoomFor : XDV yX6_hasRoomFor 6 := ⟨inG 524 (by decide +kernel) rfl, inG 525 (by decide +kernel) rfl, ⟨TX6, 7, rfl⟩⟩
theorem dd_X6_init : XD yX6_init cX6_init 2 none 0 := ⟨inG 42 (by decide +kernel) rfl, inG 15 (by decide +kernel) rfl, by decide +kernel, by decide +kernel, by decide +kernel⟩
theorem di_X6_init : Cond.instanceMethod yX6_init ∈ tblG := inG 41 (by decide +kernel) rfl
theorem dd_X6_insertChange : XD yX6_insertChange cX6_insertChange 4 none 1 := ⟨inG 542 (by decide +kernel) rfl, inG 15 (by decide +kernel) rfl, by decide +kernel, by decide +kernel, by decide +kernel⟩
theorem dv_X6_insertChange : XDV yX6_insertChange 6 := ⟨inG 540 (by decide +kernel) rfl, inG 541 (by decide +kernel) rfl, ⟨TX6, 7, rfl⟩⟩
theorem dd_X6_isSameTurnedBy : XD yX6_isSameTurnedBy cX6_isSameTurnedBy 3 (some .boolean) 1 := ⟨inG 327 (by decide +kernel) rfl, inG 15 (by decide +kernel) rfl, by decide +kernel, by decide +kernel, by decide +kernel⟩
theorem dv_X6_isSameTurnedBy : XDV yX6_isSameTurnedBy 6 := ⟨inG 325 (by decide +kernel) rfl, inG 326 (by decide +kernel) rfl, ⟨TX6, 7, rfl⟩⟩
theorem dd_X6_markOf : XD yX6_markOf cX6_markOf 2 (some .int) 1 := ⟨inG 424 (by decide +kernel) rfl, inG 15 (by decide +kernel) rfl, by decide +kernel, by decide +kernel, by decide +kernel⟩
theorem dv_X6_markOf : XDV yX6_markOf 6 := ⟨inG 422 (by decide +kernel) rfl, inG 423 (by decide +kernel) rfl, ⟨TX6, 7, rfl⟩⟩
theorem dd_X6_markedCells : XD yX6_markedCells cX6_markedCells 3 (some .int) 0 := ⟨inG 420 (by decide +kernel) rfl, inG 15 (by decide +kernel) rfl, by decide +kernel, by decide +kernel, by decide +kernel⟩
theorem dv_X6_markedCells : XDV yX6_markedCells 6 := ⟨inG 418 (by decide +kernel) rfl, inG 419 (by decide +kernel) rfl, ⟨TX6, 7, rfl⟩⟩
theorem dd_X6_measure : XD yX6_measure cX6_measure 2 (some .int) 0 := ⟨inG 322 (by decide +kernel) rfl, inG 15 (by decide +kernel) rfl, by decide +kernel, by decide +kernel, by decide +kernel⟩
theorem dv_X6_measure : XDV yX6_measure 6 := ⟨inG 320 (by decide +kernel) rfl, inG 321 (by decide +kernel) rfl, ⟨TX6, 7, rfl⟩⟩
theorem dd_X6_placeOfChange : XD yX6_placeOfChange cX6_placeOfChange 3 (some .int) 1 := ⟨inG 534 (by decide +kernel) rfl, inG 15 (by decide +kernel) rfl, by decide +kernel, by decide +kernel, by decide +kernel⟩
theorem dv_X6_placeOfChange : XDV yX6_placeOfChange 6 := ⟨inG 532 (by decide +kernel) rfl, inG 533 (by decide +kernel) rfl, ⟨TX6, 7, rfl⟩⟩
theorem dd_X6_putSpeed : XD yX6_putSpeed cX6_putSpeed 3 none 2 := ⟨inG 538 (by decide +kernel) rfl, inG 15 (by decide +kernel) rfl, by decide +kernel, by decide +kernel, by decide +kernel⟩
theorem dv_X6_putSpeed : XDV yX6_putSpeed 6 := ⟨inG 536 (by decide +kernel) rfl, inG 537 (by decide +kernel) rfl, ⟨TX6, 7, rfl⟩⟩
theorem dd_X6_stepBetween : XD yX6_stepBetween cX6_stepBetween 5 (some .int) 3 := ⟨inG 331 (by decide +kernel) rfl, inG 15 (by decide +kernel) rfl, by decide +kernel, by decide +kernel, by decide +kernel⟩
theorem dv_X6_stepBetween : XDV yX6_stepBetween 6 := ⟨inG 329 (by decide +kernel) rfl, inG 330 (by decide +kernel) rfl, ⟨TX6, 7, rfl⟩⟩
theorem dd_X6_turnAt : XD yX6_turnAt cX6_turnAt 6 (some .int) 1 := ⟨inG 310 (by decide +kernel) rfl, inG 15 (by decide +kernel) rfl, by decide +kernel, by decide +kernel, by decide +kernel⟩
theorem dv_X6_turnAt : XDV yX6_turnAt 6 := ⟨inG 308 (by decide +kernel) rfl, inG 309 (by decide +kernel) rfl, ⟨TX6, 7, rfl⟩⟩
theorem dd_X6_turnsModulo : XD yX6_turnsModulo cX6_turnsModulo 8 (some .long) 4 := ⟨inG 579 (by decide +kernel) rfl, inG 15 (by decide +kernel) rfl, by decide +kernel, by decide +kernel, by decide +kernel⟩
theorem dv_X6_turnsModulo : XDV yX6_turnsModulo 6 := ⟨inG 577 (by decide +kernel) rfl, inG 578 (by decide +kernel) rfl, ⟨TX6, 7, rfl⟩⟩
theorem dd_X7_append : XD yX7_append cX7_append 2 none 1 := ⟨inG 465 (by decide +kernel) rfl, inG 20 (by decide +kernel) rfl, by decide +kernel, by decide +kernel, by decide +kernel⟩
theorem dv_X7_append : XDV yX7_append 7 := ⟨inG 463 (by decide +kernel) rfl, inG 464 (by decide +kernel) rfl, ⟨TX7, 5, rfl⟩⟩
theorem dd_X7_code : XD yX7_code cX7_code 1 (some .int) 0 := ⟨inG 486 (by decide +kernel) rfl, inG 20 (by decide +kernel) rfl, by decide +kernel, by decide +kernel, by decide +kernel⟩
theorem dv_X7_code : XDV yX7_code 7 := ⟨inG 485 (by decide +kernel) rfl, inG 6 (by decide +kernel) rfl, ⟨TX7, 5, rfl⟩⟩
theorem dd_X7_init : XD yX7_init cX7_init 1 none 0 := ⟨inG 182 (by decide +kernel) rfl, inG 20 (by decide +kernel) rfl, by decide +kernel, by decide +kernel, by decide +kernel⟩
theorem di_X7_init : Cond.instanceMethod yX7_init ∈ tblG := inG 181 (by decide +kernel) rfl
theorem dd_X7_isCell : XD yX7_isCell cX7_isCell 1 (some .boolean) 1 := ⟨inG 490 (by decide +kernel) rfl, inG 20 (by decide +kernel) rfl, by decide +kernel, by decide +kernel, by decide +kernel⟩
theorem ds_X7_isCell : Cond.static yX7_isCell ∈ tblG := inG 489 (by decide +kernel) rfl
theorem dd_X7_isDigit : XD yX7_isDigit cX7_isDigit 1 (some .boolean) 1 := ⟨inG 510 (by decide +kernel) rfl, inG 20 (by decide +kernel) rfl, by decide +kernel, by decide +kernel, by decide +kernel⟩
theorem ds_X7_isDigit : Cond.static yX7_isDigit ∈ tblG := inG 509 (by decide +kernel) rfl
theorem dd_X7_readCells : XD yX7_readCells cX7_readCells 2 none 1 := ⟨inG 482 (by decide +kernel) rfl, inG 20 (by decide +kernel) rfl, by decide +kernel, by decide +kernel, by decide +kernel⟩
theorem dv_X7_readCells : XDV yX7_readCells 7 := ⟨inG 481 (by decide +kernel) rfl, inG 5 (by decide +kernel) rfl, ⟨TX7, 5, rfl⟩⟩
theorem dd_X7_readInto : XD yX7_readInto cX7_readInto 2 (some .boolean) 1 := ⟨inG 474 (by decide +kernel) rfl, inG 20 (by decide +kernel) rfl, by decide +kernel, by decide +kernel, by decide +kernel⟩
theorem dv_X7_readInto : XDV yX7_readInto 7 := ⟨inG 472 (by decide +kernel) rfl, inG 473 (by decide +kernel) rfl, ⟨TX7, 5, rfl⟩⟩
theorem dd_X7_readNumber : XD yX7_readNumber cX7_readNumber 5 (some .int) 2 := ⟨inG 507 (by decide +kernel) rfl, inG 20 (by decide +kernel) rfl, by decide +kernel, by decide +kernel, by decide +kernel⟩
theorem dv_X7_readNumber : XDV yX7_readNumber 7 := ⟨inG 506 (by decide +kernel) rfl, inG 9 (by decide +kernel) rfl, ⟨TX7, 5, rfl⟩⟩
theorem dd_X7_readSpeed : XD yX7_readSpeed cX7_readSpeed 1 (some .int) 0 := ⟨inG 514 (by decide +kernel) rfl, inG 20 (by decide +kernel) rfl, by decide +kernel, by decide +kernel, by decide +kernel⟩
theorem dv_X7_readSpeed : XDV yX7_readSpeed 7 := ⟨inG 513 (by decide +kernel) rfl, inG 10 (by decide +kernel) rfl, ⟨TX7, 5, rfl⟩⟩
theorem dd_X7_takes : XD yX7_takes cX7_takes 2 (some .boolean) 1 := ⟨inG 503 (by decide +kernel) rfl, inG 20 (by decide +kernel) rfl, by decide +kernel, by decide +kernel, by decide +kernel⟩
theorem dv_X7_takes : XDV yX7_takes 7 := ⟨inG 502 (by decide +kernel) rfl, inG 8 (by decide +kernel) rfl, ⟨TX7, 5, rfl⟩⟩
theorem dd_X7_tellFault : XD yX7_tellFault cX7_tellFault 3 none 2 := ⟨inG 499 (by decide +kernel) rfl, inG 20 (by decide +kernel) rfl, by decide +kernel, by decide +kernel, by decide +kernel⟩
theorem dv_X7_tellFault : XDV yX7_tellFault 7 := ⟨inG 498 (by decide +kernel) rfl, inG 7 (by decide +kernel) rfl, ⟨TX7, 5, rfl⟩⟩
theorem dd_X8_addReading : XD yX8_addReading cX8_addReading 3 (some .int) 2 := ⟨inG 352 (by decide +kernel) rfl, inG 13 (by decide +kernel) rfl, by decide +kernel, by decide +kernel, by decide +kernel⟩
theorem dv_X8_addReading : XDV yX8_addReading 8 := ⟨inG 351 (by decide +kernel) rfl, inG 2 (by decide +kernel) rfl, ⟨TX8, 5, rfl⟩⟩
theorem dd_X8_at : XD yX8_at cX8_at 2 (some .int) 2 := ⟨inG 313 (by decide +kernel) rfl, inG 13 (by decide +kernel) rfl, by decide +kernel, by decide +kernel, by decide +kernel⟩
theorem ds_X8_at : Cond.static yX8_at ∈ tblG := inG 312 (by decide +kernel) rfl
theorem dd_X8_bestPeriod : XD yX8_bestPeriod cX8_bestPeriod 8 (some .int) 2 := ⟨inG 613 (by decide +kernel) rfl, inG 13 (by decide +kernel) rfl, by decide +kernel, by decide +kernel, by decide +kernel⟩
theorem dv_X8_bestPeriod : XDV yX8_bestPeriod 8 := ⟨inG 611 (by decide +kernel) rfl, inG 612 (by decide +kernel) rfl, ⟨TX8, 5, rfl⟩⟩
theorem dd_X8_candidate : XD yX8_candidate cX8_candidate 2 (some .int) 1 := ⟨inG 601 (by decide +kernel) rfl, inG 13 (by decide +kernel) rfl, by decide +kernel, by decide +kernel, by decide +kernel⟩
theorem dv_X8_candidate : XDV yX8_candidate 8 := ⟨inG 599 (by decide +kernel) rfl, inG 600 (by decide +kernel) rfl, ⟨TX8, 5, rfl⟩⟩
theorem dd_X8_candidates : XD yX8_candidates cX8_candidates 1 (some .int) 0 := ⟨inG 609 (by decide +kernel) rfl, inG 13 (by decide +kernel) rfl, by decide +kernel, by decide +kernel, by decide +kernel⟩
theorem dv_X8_candidates : XDV yX8_candidates 8 := ⟨inG 607 (by decide +kernel) rfl, inG 608 (by decide +kernel) rfl, ⟨TX8, 5, rfl⟩⟩
theorem dd_X8_clearText : XD yX8_clearText cX8_clearText 2 (some .int) 0 := ⟨inG 457 (by decide +kernel) rfl, inG 13 (by decide +kernel) rfl, by decide +kernel, by decide +kernel, by decide +kernel⟩
theorem dv_X8_clearText : XDV yX8_clearText 8 := ⟨inG 455 (by decide +kernel) rfl, inG 456 (by decide +kernel) rfl, ⟨TX8, 5, rfl⟩⟩
theorem dd_X8_copyRow : XD yX8_copyRow cX8_copyRow 3 none 2 := ⟨inG 270 (by decide +kernel) rfl, inG 13 (by decide +kernel) rfl, by decide +kernel, by decide +kernel, by decide +kernel⟩
theorem ds_X8_copyRow : Cond.static yX8_copyRow ∈ tblG := inG 269 (by decide +kernel) rfl
theorem dd_X8_count : XD yX8_count cX8_count 2 (some .int) 1 := ⟨inG 416 (by decide +kernel) rfl, inG 13 (by decide +kernel) rfl, by decide +kernel, by decide +kernel, by decide +kernel⟩
theorem dv_X8_count : XDV yX8_count 8 := ⟨inG 414 (by decide +kernel) rfl, inG 415 (by decide +kernel) rfl, ⟨TX8, 5, rfl⟩⟩
theorem dd_X8_findWithout : XD yX8_findWithout cX8_findWithout 2 (some (.object "FlashWheelReader$Candidates")) 1 := ⟨inG 375 (by decide +kernel) rfl, inG 13 (by decide +kernel) rfl, by decide +kernel, by decide +kernel, by decide +kernel⟩
theorem dv_X8_findWithout : XDV yX8_findWithout 8 := ⟨inG 374 (by decide +kernel) rfl, inG 4 (by decide +kernel) rfl, ⟨TX8, 5, rfl⟩⟩
theorem dd_X8_flash : XD yX8_flash cX8_flash 4 (some .int) 2 := ⟨inG 294 (by decide +kernel) rfl, inG 13 (by decide +kernel) rfl, by decide +kernel, by decide +kernel, by decide +kernel⟩
theorem dv_X8_flash : XDV yX8_flash 8 := ⟨inG 292 (by decide +kernel) rfl, inG 293 (by decide +kernel) rfl, ⟨TX8, 5, rfl⟩⟩
theorem dd_X8_hasBit : XD yX8_hasBit cX8_hasBit 3 (some .boolean) 2 := ⟨inG 397 (by decide +kernel) rfl, inG 13 (by decide +kernel) rfl, by decide +kernel, by decide +kernel, by decide +kernel⟩
theorem ds_X8_hasBit : Cond.static yX8_hasBit ∈ tblG := inG 396 (by decide +kernel) rfl
theorem dd_X8_init : XD yX8_init cX8_init 1 none 0 := ⟨inG 28 (by decide +kernel) rfl, inG 13 (by decide +kernel) rfl, by decide +kernel, by decide +kernel, by decide +kernel⟩
theorem di_X8_init : Cond.instanceMethod yX8_init ∈ tblG := inG 27 (by decide +kernel) rfl
theorem dd_X8_isFlash : XD yX8_isFlash cX8_isFlash 2 (some .boolean) 1 := ⟨inG 298 (by decide +kernel) rfl, inG 13 (by decide +kernel) rfl, by decide +kernel, by decide +kernel, by decide +kernel⟩
theorem dv_X8_isFlash : XDV yX8_isFlash 8 := ⟨inG 297 (by decide +kernel) rfl, inG 1 (by decide +kernel) rfl, ⟨TX8, 5, rfl⟩⟩
theorem dd_X8_isPlace : XD yX8_isPlace cX8_isPlace 2 (some .boolean) 1 := ⟨inG 565 (by decide +kernel) rfl, inG 13 (by decide +kernel) rfl, by decide +kernel, by decide +kernel, by decide +kernel⟩
theorem dv_X8_isPlace : XDV yX8_isPlace 8 := ⟨inG 564 (by decide +kernel) rfl, inG 11 (by decide +kernel) rfl, ⟨TX8, 5, rfl⟩⟩
theorem dd_X8_isReading : XD yX8_isReading cX8_isReading 2 (some .boolean) 1 := ⟨inG 370 (by decide +kernel) rfl, inG 13 (by decide +kernel) rfl, by decide +kernel, by decide +kernel, by decide +kernel⟩
theorem dv_X8_isReading : XDV yX8_isReading 8 := ⟨inG 369 (by decide +kernel) rfl, inG 3 (by decide +kernel) rfl, ⟨TX8, 5, rfl⟩⟩
theorem dd_X8_isTick : XD yX8_isTick cX8_isTick 1 (some .boolean) 1 := ⟨inG 248 (by decide +kernel) rfl, inG 13 (by decide +kernel) rfl, by decide +kernel, by decide +kernel, by decide +kernel⟩
theorem ds_X8_isTick : Cond.static yX8_isTick ∈ tblG := inG 247 (by decide +kernel) rfl
theorem dd_X8_load : XD yX8_load cX8_load 1 (some .int) 0 := ⟨inG 470 (by decide +kernel) rfl, inG 13 (by decide +kernel) rfl, by decide +kernel, by decide +kernel, by decide +kernel⟩
theorem dv_X8_load : XDV yX8_load 8 := ⟨inG 468 (by decide +kernel) rfl, inG 469 (by decide +kernel) rfl, ⟨TX8, 5, rfl⟩⟩
theorem dd_X8_look : XD yX8_look cX8_look 2 (some .int) 1 := ⟨inG 361 (by decide +kernel) rfl, inG 13 (by decide +kernel) rfl, by decide +kernel, by decide +kernel, by decide +kernel⟩
theorem dv_X8_look : XDV yX8_look 8 := ⟨inG 359 (by decide +kernel) rfl, inG 360 (by decide +kernel) rfl, ⟨TX8, 5, rfl⟩⟩
theorem dd_X8_markAt : XD yX8_markAt cX8_markAt 3 (some .int) 2 := ⟨inG 561 (by decide +kernel) rfl, inG 13 (by decide +kernel) rfl, by decide +kernel, by decide +kernel, by decide +kernel⟩
theorem dv_X8_markAt : XDV yX8_markAt 8 := ⟨inG 559 (by decide +kernel) rfl, inG 560 (by decide +kernel) rfl, ⟨TX8, 5, rfl⟩⟩
theorem dd_X8_mod : XD yX8_mod cX8_mod 3 (some .int) 2 := ⟨inG 286 (by decide +kernel) rfl, inG 13 (by decide +kernel) rfl, by decide +kernel, by decide +kernel, by decide +kernel⟩
theorem ds_X8_mod : Cond.static yX8_mod ∈ tblG := inG 285 (by decide +kernel) rfl
theorem dd_X8_nearest : XD yX8_nearest cX8_nearest 2 (some .int) 1 := ⟨inG 405 (by decide +kernel) rfl, inG 13 (by decide +kernel) rfl, by decide +kernel, by decide +kernel, by decide +kernel⟩
theorem dv_X8_nearest : XDV yX8_nearest 8 := ⟨inG 403 (by decide +kernel) rfl, inG 404 (by decide +kernel) rfl, ⟨TX8, 5, rfl⟩⟩
theorem dd_X8_odd : XD yX8_odd cX8_odd 2 (some .int) 0 := ⟨inG 630 (by decide +kernel) rfl, inG 13 (by decide +kernel) rfl, by decide +kernel, by decide +kernel, by decide +kernel⟩
theorem dv_X8_odd : XDV yX8_odd 8 := ⟨inG 628 (by decide +kernel) rfl, inG 629 (by decide +kernel) rfl, ⟨TX8, 5, rfl⟩⟩
theorem dd_X8_put : XD yX8_put cX8_put 3 none 3 := ⟨inG 46 (by decide +kernel) rfl, inG 13 (by decide +kernel) rfl, by decide +kernel, by decide +kernel, by decide +kernel⟩
theorem ds_X8_put : Cond.static yX8_put ∈ tblG := inG 45 (by decide +kernel) rfl
theorem dd_X8_read : XD yX8_read cX8_read 3 (some .int) 2 := ⟨inG 348 (by decide +kernel) rfl, inG 13 (by decide +kernel) rfl, by decide +kernel, by decide +kernel, by decide +kernel⟩
theorem dv_X8_read : XDV yX8_read 8 := ⟨inG 346 (by decide +kernel) rfl, inG 347 (by decide +kernel) rfl, ⟨TX8, 5, rfl⟩⟩
theorem dd_X8_reading : XD yX8_reading cX8_reading 3 (some .int) 2 := ⟨inG 366 (by decide +kernel) rfl, inG 13 (by decide +kernel) rfl, by decide +kernel, by decide +kernel, by decide +kernel⟩
theorem dv_X8_reading : XDV yX8_reading 8 := ⟨inG 364 (by decide +kernel) rfl, inG 365 (by decide +kernel) rfl, ⟨TX8, 5, rfl⟩⟩
theorem dd_X8_seems : XD yX8_seems cX8_seems 2 (some .int) 1 := ⟨inG 570 (by decide +kernel) rfl, inG 13 (by decide +kernel) rfl, by decide +kernel, by decide +kernel, by decide +kernel⟩
theorem dv_X8_seems : XDV yX8_seems 8 := ⟨inG 568 (by decide +kernel) rfl, inG 569 (by decide +kernel) rfl, ⟨TX8, 5, rfl⟩⟩
theorem dd_X8_setFlash : XD yX8_setFlash cX8_setFlash 3 (some .int) 2 := ⟨inG 245 (by decide +kernel) rfl, inG 13 (by decide +kernel) rfl, by decide +kernel, by decide +kernel, by decide +kernel⟩
theorem dv_X8_setFlash : XDV yX8_setFlash 8 := ⟨inG 243 (by decide +kernel) rfl, inG 244 (by decide +kernel) rfl, ⟨TX8, 5, rfl⟩⟩
theorem dd_X8_setLimit : XD yX8_setLimit cX8_setLimit 3 (some .int) 1 := ⟨inG 401 (by decide +kernel) rfl, inG 13 (by decide +kernel) rfl, by decide +kernel, by decide +kernel, by decide +kernel⟩
theorem dv_X8_setLimit : XDV yX8_setLimit 8 := ⟨inG 399 (by decide +kernel) rfl, inG 400 (by decide +kernel) rfl, ⟨TX8, 5, rfl⟩⟩
theorem dd_X8_setSpeed : XD yX8_setSpeed cX8_setSpeed 3 (some .int) 2 := ⟨inG 522 (by decide +kernel) rfl, inG 13 (by decide +kernel) rfl, by decide +kernel, by decide +kernel, by decide +kernel⟩
theorem dv_X8_setSpeed : XDV yX8_setSpeed 8 := ⟨inG 520 (by decide +kernel) rfl, inG 521 (by decide +kernel) rfl, ⟨TX8, 5, rfl⟩⟩
theorem dd_X8_step : XD yX8_step cX8_step 3 (some .int) 2 := ⟨inG 318 (by decide +kernel) rfl, inG 13 (by decide +kernel) rfl, by decide +kernel, by decide +kernel, by decide +kernel⟩
theorem dv_X8_step : XDV yX8_step 8 := ⟨inG 316 (by decide +kernel) rfl, inG 317 (by decide +kernel) rfl, ⟨TX8, 5, rfl⟩⟩
theorem dd_X8_stillPeriod : XD yX8_stillPeriod cX8_stillPeriod 5 (some .int) 2 := ⟨inG 344 (by decide +kernel) rfl, inG 13 (by decide +kernel) rfl, by decide +kernel, by decide +kernel, by decide +kernel⟩
theorem dv_X8_stillPeriod : XDV yX8_stillPeriod 8 := ⟨inG 342 (by decide +kernel) rfl, inG 343 (by decide +kernel) rfl, ⟨TX8, 5, rfl⟩⟩
theorem dd_X8_turn : XD yX8_turn cX8_turn 2 (some .int) 1 := ⟨inG 306 (by decide +kernel) rfl, inG 13 (by decide +kernel) rfl, by decide +kernel, by decide +kernel, by decide +kernel⟩
theorem dv_X8_turn : XDV yX8_turn 8 := ⟨inG 304 (by decide +kernel) rfl, inG 305 (by decide +kernel) rfl, ⟨TX8, 5, rfl⟩⟩
theorem dd_X8_type : XD yX8_type cX8_type 2 (some .int) 1 := ⟨inG 461 (by decide +kernel) rfl, inG 13 (by decide +kernel) rfl, by decide +kernel, by decide +kernel, by decide +kernel⟩
theorem dv_X8_type : XDV yX8_type 8 := ⟨inG 459 (by decide +kernel) rfl, inG 460 (by decide +kernel) rfl, ⟨TX8, 5, rfl⟩⟩
theorem dd_X8_within : XD yX8_within cX8_within 3 (some .boolean) 3 := ⟨inG 251 (by decide +kernel) rfl, inG 13 (by decide +kernel) rfl, by decide +kernel, by decide +kernel, by decide +kernel⟩
theorem ds_X8_within : Cond.static yX8_within ∈ tblG := inG 250 (by decide +kernel) rfl
theorem oi_inst : Cond.instanceMethod objectInit ∈ tblG := inG 30 (by decide +kernel) rfl
theorem oi_code : Cond.code objectInit ⟨#[0xb1]⟩ 1 none ∈ tblG := inG 31 (by decide +kernel) rfl
theorem ar_int : Cond.arrayClass .int ∈ tblG := inG 76 (by decide +kernel) rfl
theorem cl_L_21 : Cond.classLink RL 21 RX8 ∈ tblG := inG 24 (by decide +kernel) rfl
theorem cl_X3_9 : Cond.classLink RX3 9 RX5 ∈ tblG := inG 164 (by decide +kernel) rfl
theorem cl_X5_7 : Cond.classLink RX5 7 RX6 ∈ tblG := inG 38 (by decide +kernel) rfl
theorem cl_X5_16 : Cond.classLink RX5 16 RX2 ∈ tblG := inG 77 (by decide +kernel) rfl
theorem cl_X5_23 : Cond.classLink RX5 23 RX4 ∈ tblG := inG 94 (by decide +kernel) rfl
theorem cl_X5_30 : Cond.classLink RX5 30 RX1 ∈ tblG := inG 118 (by decide +kernel) rfl
theorem cl_X8_7 : Cond.classLink RX8 7 RX5 ∈ tblG := inG 32 (by decide +kernel) rfl
theorem cl_X8_16 : Cond.classLink RX8 16 RX3 ∈ tblG := inG 158 (by decide +kernel) rfl
theorem cl_X8_23 : Cond.classLink RX8 23 RX7 ∈ tblG := inG 178 (by decide +kernel) rfl
theorem cl_X8_30 : Cond.classLink RX8 30 RX6 ∈ tblG := inG 202 (by decide +kernel) rfl
theorem cl_X8_37 : Cond.classLink RX8 37 RX0 ∈ tblG := inG 204 (by decide +kernel) rfl
theorem lk_L_10 : Cond.methodLink RL 10 yL_cell ∈ tblG := inG 439 (by decide +kernel) rfl
theorem lk_L_16 : Cond.methodLink RL 16 yL_low ∈ tblG := inG 444 (by decide +kernel) rfl
theorem lk_L_20 : Cond.methodLink RL 20 yX8_clearText ∈ tblG := inG 454 (by decide +kernel) rfl
theorem lk_L_26 : Cond.methodLink RL 26 yX8_type ∈ tblG := inG 458 (by decide +kernel) rfl
theorem lk_L_30 : Cond.methodLink RL 30 yX8_load ∈ tblG := inG 467 (by decide +kernel) rfl
theorem lk_L_33 : Cond.methodLink RL 33 yX8_count ∈ tblG := inG 413 (by decide +kernel) rfl
theorem lk_L_36 : Cond.methodLink RL 36 yX8_setSpeed ∈ tblG := inG 519 (by decide +kernel) rfl
theorem lk_L_39 : Cond.methodLink RL 39 yL_isSame ∈ tblG := inG 546 (by decide +kernel) rfl
theorem lk_L_43 : Cond.methodLink RL 43 yL_mod ∈ tblG := inG 448 (by decide +kernel) rfl
theorem lk_L_46 : Cond.methodLink RL 46 yX8_setFlash ∈ tblG := inG 242 (by decide +kernel) rfl
theorem lk_L_49 : Cond.methodLink RL 49 yL_turn ∈ tblG := inG 552 (by decide +kernel) rfl
theorem lk_L_53 : Cond.methodLink RL 53 yL_step ∈ tblG := inG 555 (by decide +kernel) rfl
theorem lk_L_57 : Cond.methodLink RL 57 yX8_flash ∈ tblG := inG 291 (by decide +kernel) rfl
theorem lk_L_60 : Cond.methodLink RL 60 yX8_markAt ∈ tblG := inG 558 (by decide +kernel) rfl
theorem lk_L_63 : Cond.methodLink RL 63 yX8_seems ∈ tblG := inG 567 (by decide +kernel) rfl
theorem lk_L_66 : Cond.methodLink RL 66 yX8_reading ∈ tblG := inG 363 (by decide +kernel) rfl
theorem lk_L_69 : Cond.methodLink RL 69 yX8_setLimit ∈ tblG := inG 398 (by decide +kernel) rfl
theorem lk_L_73 : Cond.methodLink RL 73 yL_fits ∈ tblG := inG 595 (by decide +kernel) rfl
theorem lk_L_77 : Cond.methodLink RL 77 yX8_candidate ∈ tblG := inG 598 (by decide +kernel) rfl
theorem lk_L_80 : Cond.methodLink RL 80 yX8_candidates ∈ tblG := inG 606 (by decide +kernel) rfl
theorem lk_L_83 : Cond.methodLink RL 83 yX8_nearest ∈ tblG := inG 402 (by decide +kernel) rfl
theorem lk_L_86 : Cond.methodLink RL 86 yX8_bestPeriod ∈ tblG := inG 610 (by decide +kernel) rfl
theorem lk_L_90 : Cond.methodLink RL 90 yX8_odd ∈ tblG := inG 627 (by decide +kernel) rfl
theorem lk_L_93 : Cond.methodLink RL 93 yX8_init ∈ tblG := inG 26 (by decide +kernel) rfl
theorem lk_L_94 : Cond.methodLink RL 94 yL_wheel ∈ tblG := inG 451 (by decide +kernel) rfl
theorem lk_L_98 : Cond.methodLink RL 98 yL_speeds ∈ tblG := inG 516 (by decide +kernel) rfl
theorem lk_L_102 : Cond.methodLink RL 102 yL_measure ∈ tblG := inG 543 (by decide +kernel) rfl
theorem lk_L_105 : Cond.methodLink RL 105 yL_flashes ∈ tblG := inG 549 (by decide +kernel) rfl
theorem lk_L_109 : Cond.methodLink RL 109 yX8_look ∈ tblG := inG 358 (by decide +kernel) rfl
theorem lk_L_112 : Cond.methodLink RL 112 yX8_read ∈ tblG := inG 345 (by decide +kernel) rfl
theorem lk_L_115 : Cond.methodLink RL 115 yX8_stillPeriod ∈ tblG := inG 341 (by decide +kernel) rfl
theorem lk_L_118 : Cond.methodLink RL 118 yL_readings ∈ tblG := inG 591 (by decide +kernel) rfl
theorem lk_X0_3 : Cond.methodLink RX0 3 objectInit ∈ tblG := inG 209 (by decide +kernel) rfl
theorem lk_X0_32 : Cond.methodLink RX0 32 yX4_allFit ∈ tblG := inG 380 (by decide +kernel) rfl
theorem lk_X0_44 : Cond.methodLink RX0 44 yX0_has ∈ tblG := inG 390 (by decide +kernel) rfl
theorem lk_X0_48 : Cond.methodLink RX0 48 yJ9_abs_0f7a4 ∈ tblG := inG 410 (by decide +kernel) rfl
theorem lk_X0_62 : Cond.methodLink RX0 62 yJ9_max_7cf53 ∈ tblG := inG 624 (by decide +kernel) rfl
theorem lk_X1_3 : Cond.methodLink RX1 3 objectInit ∈ tblG := inG 123 (by decide +kernel) rfl
theorem lk_X1_32 : Cond.methodLink RX1 32 yX1_isOpenAt ∈ tblG := inG 433 (by decide +kernel) rfl
theorem lk_X1_36 : Cond.methodLink RX1 36 yX1_opensAt ∈ tblG := inG 429 (by decide +kernel) rfl
theorem lk_X2_3 : Cond.methodLink RX2 3 objectInit ∈ tblG := inG 82 (by decide +kernel) rfl
theorem lk_X3_3 : Cond.methodLink RX3 3 objectInit ∈ tblG := inG 163 (by decide +kernel) rfl
theorem lk_X3_22 : Cond.methodLink RX3 22 yX3_slotAt ∈ tblG := inG 256 (by decide +kernel) rfl
theorem lk_X3_26 : Cond.methodLink RX3 26 yX5_copyFrom ∈ tblG := inG 260 (by decide +kernel) rfl
theorem lk_X4_3 : Cond.methodLink RX4 3 objectInit ∈ tblG := inG 99 (by decide +kernel) rfl
theorem lk_X5_1 : Cond.methodLink RX5 1 objectInit ∈ tblG := inG 37 (by decide +kernel) rfl
theorem lk_X5_9 : Cond.methodLink RX5 9 yX6_init ∈ tblG := inG 40 (by decide +kernel) rfl
theorem lk_X5_37 : Cond.methodLink RX5 37 yX6_copyFrom ∈ tblG := inG 264 (by decide +kernel) rfl
theorem lk_X5_41 : Cond.methodLink RX5 41 yX2_copyFrom ∈ tblG := inG 271 (by decide +kernel) rfl
theorem lk_X5_44 : Cond.methodLink RX5 44 yX4_copyFrom ∈ tblG := inG 275 (by decide +kernel) rfl
theorem lk_X5_47 : Cond.methodLink RX5 47 yX1_copyFrom ∈ tblG := inG 280 (by decide +kernel) rfl
theorem lk_X5_50 : Cond.methodLink RX5 50 yX6_measure ∈ tblG := inG 337 (by decide +kernel) rfl
theorem lk_X5_54 : Cond.methodLink RX5 54 yX2_tickOf ∈ tblG := inG 338 (by decide +kernel) rfl
theorem lk_X5_58 : Cond.methodLink RX5 58 yX6_turnAt ∈ tblG := inG 339 (by decide +kernel) rfl
theorem lk_X5_67 : Cond.methodLink RX5 67 yX2_number ∈ tblG := inG 575 (by decide +kernel) rfl
theorem lk_X5_70 : Cond.methodLink RX5 70 yX6_stepBetween ∈ tblG := inG 590 (by decide +kernel) rfl
theorem lk_X5_81 : Cond.methodLink RX5 81 yX6_turnsModulo ∈ tblG := inG 576 (by decide +kernel) rfl
theorem lk_X5_85 : Cond.methodLink RX5 85 yJ13_bitCount_95d88 ∈ tblG := inG 580 (by decide +kernel) rfl
theorem lk_X6_3 : Cond.methodLink RX6 3 objectInit ∈ tblG := inG 43 (by decide +kernel) rfl
theorem lk_X6_46 : Cond.methodLink RX6 46 yX6_markOf ∈ tblG := inG 421 (by decide +kernel) rfl
theorem lk_X6_54 : Cond.methodLink RX6 54 yX6_isSameTurnedBy ∈ tblG := inG 324 (by decide +kernel) rfl
theorem lk_X6_58 : Cond.methodLink RX6 58 yX6_placeOfChange ∈ tblG := inG 531 (by decide +kernel) rfl
theorem lk_X6_61 : Cond.methodLink RX6 61 yX6_hasChange ∈ tblG := inG 527 (by decide +kernel) rfl
theorem lk_X6_64 : Cond.methodLink RX6 64 yX6_insertChange ∈ tblG := inG 539 (by decide +kernel) rfl
theorem lk_X6_68 : Cond.methodLink RX6 68 yX6_turnAt ∈ tblG := inG 332 (by decide +kernel) rfl
theorem lk_X7_3 : Cond.methodLink RX7 3 objectInit ∈ tblG := inG 183 (by decide +kernel) rfl
theorem lk_X7_29 : Cond.methodLink RX7 29 yX6_empty ∈ tblG := inG 475 (by decide +kernel) rfl
theorem lk_X7_34 : Cond.methodLink RX7 34 yX7_readCells ∈ tblG := inG 479 (by decide +kernel) rfl
theorem lk_X7_38 : Cond.methodLink RX7 38 yX7_takes ∈ tblG := inG 500 (by decide +kernel) rfl
theorem lk_X7_42 : Cond.methodLink RX7 42 yX7_readNumber ∈ tblG := inG 504 (by decide +kernel) rfl
theorem lk_X7_49 : Cond.methodLink RX7 49 yX7_readSpeed ∈ tblG := inG 511 (by decide +kernel) rfl
theorem lk_X7_56 : Cond.methodLink RX7 56 yX7_tellFault ∈ tblG := inG 496 (by decide +kernel) rfl
theorem lk_X7_63 : Cond.methodLink RX7 63 yX7_code ∈ tblG := inG 483 (by decide +kernel) rfl
theorem lk_X7_66 : Cond.methodLink RX7 66 yX7_isCell ∈ tblG := inG 488 (by decide +kernel) rfl
theorem lk_X7_69 : Cond.methodLink RX7 69 yX6_addCell ∈ tblG := inG 492 (by decide +kernel) rfl
theorem lk_X7_73 : Cond.methodLink RX7 73 yX7_isDigit ∈ tblG := inG 508 (by decide +kernel) rfl
theorem lk_X8_1 : Cond.methodLink RX8 1 objectInit ∈ tblG := inG 29 (by decide +kernel) rfl
theorem lk_X8_18 : Cond.methodLink RX8 18 yX3_init ∈ tblG := inG 160 (by decide +kernel) rfl
theorem lk_X8_32 : Cond.methodLink RX8 32 yX6_init ∈ tblG := inG 203 (by decide +kernel) rfl
theorem lk_X8_44 : Cond.methodLink RX8 44 yX8_within ∈ tblG := inG 249 (by decide +kernel) rfl
theorem lk_X8_52 : Cond.methodLink RX8 52 yX7_append ∈ tblG := inG 462 (by decide +kernel) rfl
theorem lk_X8_56 : Cond.methodLink RX8 56 yX7_readInto ∈ tblG := inG 471 (by decide +kernel) rfl
theorem lk_X8_63 : Cond.methodLink RX8 63 yX3_remember ∈ tblG := inG 252 (by decide +kernel) rfl
theorem lk_X8_70 : Cond.methodLink RX8 70 yX6_copyFrom ∈ tblG := inG 515 (by decide +kernel) rfl
theorem lk_X8_80 : Cond.methodLink RX8 80 yX8_isPlace ∈ tblG := inG 562 (by decide +kernel) rfl
theorem lk_X8_84 : Cond.methodLink RX8 84 yX6_markOf ∈ tblG := inG 566 (by decide +kernel) rfl
theorem lk_X8_99 : Cond.methodLink RX8 99 yX8_isTick ∈ tblG := inG 246 (by decide +kernel) rfl
theorem lk_X8_102 : Cond.methodLink RX8 102 yX6_hasRoomFor ∈ tblG := inG 523 (by decide +kernel) rfl
theorem lk_X8_105 : Cond.methodLink RX8 105 yX6_putSpeed ∈ tblG := inG 535 (by decide +kernel) rfl
theorem lk_X8_118 : Cond.methodLink RX8 118 yX6_turnAt ∈ tblG := inG 307 (by decide +kernel) rfl
theorem lk_X8_121 : Cond.methodLink RX8 121 yX8_mod ∈ tblG := inG 314 (by decide +kernel) rfl
theorem lk_X8_137 : Cond.methodLink RX8 137 yX2_number ∈ tblG := inG 287 (by decide +kernel) rfl
theorem lk_X8_141 : Cond.methodLink RX8 141 yX8_isFlash ∈ tblG := inG 295 (by decide +kernel) rfl
theorem lk_X8_144 : Cond.methodLink RX8 144 yX2_tickOf ∈ tblG := inG 299 (by decide +kernel) rfl
theorem lk_X8_147 : Cond.methodLink RX8 147 yX8_turn ∈ tblG := inG 303 (by decide +kernel) rfl
theorem lk_X8_150 : Cond.methodLink RX8 150 yX8_step ∈ tblG := inG 315 (by decide +kernel) rfl
theorem lk_X8_153 : Cond.methodLink RX8 153 yX5_earliestAlike ∈ tblG := inG 333 (by decide +kernel) rfl
theorem lk_X8_156 : Cond.methodLink RX8 156 yX6_measure ∈ tblG := inG 319 (by decide +kernel) rfl
theorem lk_X8_159 : Cond.methodLink RX8 159 yX6_stepBetween ∈ tblG := inG 328 (by decide +kernel) rfl
theorem lk_X8_163 : Cond.methodLink RX8 163 yX5_differentPictures ∈ tblG := inG 571 (by decide +kernel) rfl
theorem lk_X8_166 : Cond.methodLink RX8 166 yX5_countSeeming ∈ tblG := inG 586 (by decide +kernel) rfl
theorem lk_X8_172 : Cond.methodLink RX8 172 yX8_addReading ∈ tblG := inG 349 (by decide +kernel) rfl
theorem lk_X8_175 : Cond.methodLink RX8 175 yX8_flash ∈ tblG := inG 362 (by decide +kernel) rfl
theorem lk_X8_178 : Cond.methodLink RX8 178 yX8_isReading ∈ tblG := inG 367 (by decide +kernel) rfl
theorem lk_X8_196 : Cond.methodLink RX8 196 yX8_at ∈ tblG := inG 371 (by decide +kernel) rfl
theorem lk_X8_203 : Cond.methodLink RX8 203 yX8_findWithout ∈ tblG := inG 372 (by decide +kernel) rfl
theorem lk_X8_207 : Cond.methodLink RX8 207 yX0_number ∈ tblG := inG 386 (by decide +kernel) rfl
theorem lk_X8_211 : Cond.methodLink RX8 211 yX0_inOrder ∈ tblG := inG 602 (by decide +kernel) rfl
theorem lk_X8_214 : Cond.methodLink RX8 214 yX0_nearestTo ∈ tblG := inG 406 (by decide +kernel) rfl
theorem lk_X8_217 : Cond.methodLink RX8 217 yX8_candidates ∈ tblG := inG 631 (by decide +kernel) rfl
theorem lk_X8_220 : Cond.methodLink RX8 220 yX0_countByRemainder ∈ tblG := inG 614 (by decide +kernel) rfl
theorem lk_X8_223 : Cond.methodLink RX8 223 yX0_restOf ∈ tblG := inG 620 (by decide +kernel) rfl
theorem lk_X8_271 : Cond.methodLink RX8 271 yX6_markedCells ∈ tblG := inG 417 (by decide +kernel) rfl
theorem lk_X8_274 : Cond.methodLink RX8 274 yX1_openings ∈ tblG := inG 425 (by decide +kernel) rfl
theorem lk_X8_319 : Cond.methodLink RX8 319 yX4_add ∈ tblG := inG 353 (by decide +kernel) rfl
theorem lk_X8_322 : Cond.methodLink RX8 322 yX0_find ∈ tblG := inG 376 (by decide +kernel) rfl
theorem lk_X0_36 : Cond.methodLinkNest RX0 36 yX8_mod "FlashWheelReader" ∈ nestG := inN 394 (by decide +kernel) rfl
theorem lk_X0_40 : Cond.methodLinkNest RX0 40 yX8_hasBit "FlashWheelReader" ∈ nestG := inN 395 (by decide +kernel) rfl
theorem lk_X0_54 : Cond.methodLinkNest RX0 54 yX8_put "FlashWheelReader" ∈ nestG := inN 618 (by decide +kernel) rfl
theorem lk_X0_58 : Cond.methodLinkNest RX0 58 yX8_at "FlashWheelReader" ∈ nestG := inN 619 (by decide +kernel) rfl
theorem lk_X1_24 : Cond.methodLinkNest RX1 24 yX8_mod "FlashWheelReader" ∈ nestG := inN 437 (by decide +kernel) rfl
theorem lk_X1_28 : Cond.methodLinkNest RX1 28 yX8_hasBit "FlashWheelReader" ∈ nestG := inN 438 (by decide +kernel) rfl
theorem lk_X3_17 : Cond.methodLinkNest RX3 17 yX5_init "FlashWheelReader" ∈ nestG := inN 166 (by decide +kernel) rfl
theorem lk_X3_30 : Cond.methodLinkNest RX3 30 yX8_mod "FlashWheelReader" ∈ nestG := inN 284 (by decide +kernel) rfl
theorem lk_X4_22 : Cond.methodLinkNest RX4 22 yX8_copyRow "FlashWheelReader" ∈ nestG := inN 279 (by decide +kernel) rfl
theorem lk_X4_29 : Cond.methodLinkNest RX4 29 yX8_put "FlashWheelReader" ∈ nestG := inN 357 (by decide +kernel) rfl
theorem lk_X4_33 : Cond.methodLinkNest RX4 33 yX8_at "FlashWheelReader" ∈ nestG := inN 384 (by decide +kernel) rfl
theorem lk_X4_37 : Cond.methodLinkNest RX4 37 yX8_mod "FlashWheelReader" ∈ nestG := inN 385 (by decide +kernel) rfl
theorem lk_X5_18 : Cond.methodLinkNest RX5 18 yX2_init "FlashWheelReader" ∈ nestG := inN 79 (by decide +kernel) rfl
theorem lk_X5_25 : Cond.methodLinkNest RX5 25 yX4_init "FlashWheelReader" ∈ nestG := inN 96 (by decide +kernel) rfl
theorem lk_X5_32 : Cond.methodLinkNest RX5 32 yX1_init "FlashWheelReader" ∈ nestG := inN 120 (by decide +kernel) rfl
theorem lk_X5_61 : Cond.methodLinkNest RX5 61 yX8_mod "FlashWheelReader" ∈ nestG := inN 340 (by decide +kernel) rfl
theorem lk_X6_25 : Cond.methodLinkNest RX6 25 yX8_put "FlashWheelReader" ∈ nestG := inN 44 (by decide +kernel) rfl
theorem lk_X6_29 : Cond.methodLinkNest RX6 29 yX8_copyRow "FlashWheelReader" ∈ nestG := inN 268 (by decide +kernel) rfl
theorem lk_X6_42 : Cond.methodLinkNest RX6 42 yX8_at "FlashWheelReader" ∈ nestG := inN 311 (by decide +kernel) rfl
theorem lk_X6_50 : Cond.methodLinkNest RX6 50 yX8_mod "FlashWheelReader" ∈ nestG := inN 323 (by decide +kernel) rfl
theorem lk_X7_22 : Cond.methodLinkNest RX7 22 yX8_put "FlashWheelReader" ∈ nestG := inN 466 (by decide +kernel) rfl
theorem lk_X7_76 : Cond.methodLinkNest RX7 76 yX8_at "FlashWheelReader" ∈ nestG := inN 487 (by decide +kernel) rfl
theorem lk_X7_83 : Cond.methodLinkNest RX7 83 yX8_within "FlashWheelReader" ∈ nestG := inN 491 (by decide +kernel) rfl
theorem lk_X8_9 : Cond.methodLinkNest RX8 9 yX5_init "FlashWheelReader" ∈ nestG := inN 34 (by decide +kernel) rfl
theorem lk_X8_25 : Cond.methodLinkNest RX8 25 yX7_init "FlashWheelReader" ∈ nestG := inN 180 (by decide +kernel) rfl
theorem lk_X8_39 : Cond.methodLinkNest RX8 39 yX0_init "FlashWheelReader" ∈ nestG := inN 206 (by decide +kernel) rfl
theorem cn_L_7 : Cond.constant RL 7 86028157 ∈ tblG := inG 442 (by decide +kernel) rfl
theorem cn_L_8 : Cond.constant RL 8 49979693 ∈ tblG := inG 443 (by decide +kernel) rfl
theorem cn_L_9 : Cond.constant RL 9 2147483647 ∈ tblG := inG 447 (by decide +kernel) rfl
theorem cn_L_72 : Cond.constant RL 72 100000 ∈ tblG := inG 594 (by decide +kernel) rfl
theorem cn_J13_314 : Cond.constantLong RJ13 314 6148914691236517205 ∈ tblG := inG 583 (by decide +kernel) rfl
theorem cn_J13_316 : Cond.constantLong RJ13 316 3689348814741910323 ∈ tblG := inG 584 (by decide +kernel) rfl
theorem cn_J13_318 : Cond.constantLong RJ13 318 1085102592571150095 ∈ tblG := inG 585 (by decide +kernel) rfl
theorem nw_X0 : XNw 0 RX0 5 [.null, .null, .int 0, .int 0, .long 0] := ⟨TX0, tyX0, rfl, uwX0, tyX0_ok, by decide +kernel, inG 205 (by decide +kernel) rfl, inG 21 (by decide +kernel) rfl, fun _ => rfl⟩
theorem nw_X1 : XNw 1 RX1 4 [.int 0, .int 0, .int 0, .int 0] := ⟨TX1, tyX1, rfl, uwX1, tyX1_ok, by decide +kernel, inG 119 (by decide +kernel) rfl, inG 18 (by decide +kernel) rfl, fun _ => rfl⟩
theorem nw_X2 : XNw 2 RX2 2 [.int 0, .int 0] := ⟨TX2, tyX2, rfl, uwX2, tyX2_ok, by decide +kernel, inG 78 (by decide +kernel) rfl, inG 16 (by decide +kernel) rfl, fun _ => rfl⟩
theorem nw_X3 : XNw 3 RX3 3 [.null, .int 0, .int 0] := ⟨TX3, tyX3, rfl, uwX3, tyX3_ok, by decide +kernel, inG 159 (by decide +kernel) rfl, inG 19 (by decide +kernel) rfl, fun _ => rfl⟩
theorem nw_X4 : XNw 4 RX4 4 [.null, .null, .int 0, .int 0] := ⟨TX4, tyX4, rfl, uwX4, tyX4_ok, by decide +kernel, inG 95 (by decide +kernel) rfl, inG 17 (by decide +kernel) rfl, fun _ => rfl⟩
theorem nw_X5 : XNw 5 RX5 4 [.null, .null, .null, .null] := ⟨TX5, tyX5, rfl, uwX5, tyX5_ok, by decide +kernel, inG 33 (by decide +kernel) rfl, inG 14 (by decide +kernel) rfl, fun _ => rfl⟩
theorem nw_X6 : XNw 6 RX6 7 [.null, .null, .null, .int 0, .int 0, .int 0, .int 0] := ⟨TX6, tyX6, rfl, uwX6, tyX6_ok, by decide +kernel, inG 39 (by decide +kernel) rfl, inG 15 (by decide +kernel) rfl, fun _ => rfl⟩
theorem nw_X7 : XNw 7 RX7 5 [.null, .int 0, .int 0, .int 0, .int 0] := ⟨TX7, tyX7, rfl, uwX7, tyX7_ok, by decide +kernel, inG 179 (by decide +kernel) rfl, inG 20 (by decide +kernel) rfl, fun _ => rfl⟩
theorem nw_X8 : XNw 8 RX8 5 [.null, .null, .null, .null, .null] := ⟨TX8, tyX8, rfl, uwX8, tyX8_ok, by decide +kernel, inG 25 (by decide +kernel) rfl, inG 13 (by decide +kernel) rfl, fun _ => rfl⟩
