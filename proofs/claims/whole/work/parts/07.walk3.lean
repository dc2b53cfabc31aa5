set_option maxHeartbeats 4000000 in
set_option maxRecDepth 100000 in
theorem wX8_read {l : Launch} {n sl : Nat} {h : XH} {x0 : Nat} {x1 : Int32} {x2 : Int32} {o : Int32 × XH} (hm : fX8_read h x0 x1 x2 = some o) : XM l yX8_read cX8_read 3 (some .int) 5 108 [.ref x0, .int x1, .int x2] h n sl (some (.int o.1)) o.2 n sl := by
  refine xm_of pnX8 [some (.ref x0), some (.int x1), some (.int x2)] 0 rfl (Nat.le_of_ble_eq_true rfl) ?_
  intro X hT C
  replace C : XOK X RX8 cX8_read 3 "read" (some .int) 5 108 := C
  obtain ⟨-, hN, hX⟩ := hT
  unfold fX8_read at hm
  refine xw_iload_n (pc := 0) (i := 1) (x := x1) C dX8_read_0 rfl rfl ?_
  refine xw_iconst (pc := 1) (v := 1) C dX8_read_1 xk_i_1 ?_
  refine xw_sipush (pc := 2) (v := 500) C dX8_read_2 xk_s_500 ?_
  obtain ⟨v1, q2, hm⟩ := xbind hm
  refine xw_callS1 (pc := 5) (As := [.int x1, .int (1 : Int32), .int (500 : Int32)]) (st := []) C dX8_read_5 (wX8_within q2) dd_X8_within lk_X8_44 ds_X8_within rfl (Nat.le_of_ble_eq_true rfl) (Nat.le_of_ble_eq_true rfl) (Nat.le_of_ble_eq_true rfl) ⟨Nat.le_refl _, Nat.le_refl _⟩ hN ?_
  refine xw_if_eqZ (pc := 8) (b := v1) (tgt := 22) C dX8_read_8 (by decide) (fun q => ?_) (fun q => ?_)
  · replace hm := xif_f q hm
    refine xw_sipush (pc := 22) (v := -1001) C dX8_read_22 xk_s_m1001 ?_
    obtain rfl := Option.some.inj hm
    exact xw_ireturn (pc := 25) C dX8_read_25 rfl hX
  · replace hm := xif_t q hm
    refine xw_iload_n (pc := 11) (i := 2) (x := x2) C dX8_read_11 rfl rfl ?_
    refine xw_bipush (pc := 12) (v := -30) C dX8_read_12 xk_b_m30 ?_
    refine xw_bipush (pc := 14) (v := 30) C dX8_read_14 xk_b_30 ?_
    obtain ⟨v3, q4, hm⟩ := xbind hm
    refine xw_callS1 (pc := 16) (As := [.int x2, .int (-30 : Int32), .int (30 : Int32)]) (st := []) C dX8_read_16 (wX8_within q4) dd_X8_within lk_X8_44 ds_X8_within rfl (Nat.le_of_ble_eq_true rfl) (Nat.le_of_ble_eq_true rfl) (Nat.le_of_ble_eq_true rfl) ⟨Nat.le_refl _, Nat.le_refl _⟩ hN ?_
    refine xw_if_neZ (pc := 19) (b := v3) (tgt := 26) C dX8_read_19 (by decide) (fun q => ?_) (fun q => ?_)
    · replace hm := xif_t q hm
      refine xw_aload_n (pc := 26) (i := 0) (x := x0) C dX8_read_26 rfl rfl ?_
      refine xw_iload_n (pc := 27) (i := 1) (x := x1) C dX8_read_27 rfl rfl ?_
      refine xw_iload_n (pc := 28) (i := 2) (x := x2) C dX8_read_28 rfl rfl ?_
      obtain ⟨_, q5, hm⟩ := xbind hm
      obtain ⟨v6, q7, hm⟩ := xbind hm
      refine xw_callV1 (pc := 29) (As := [.int x1, .int x2]) (st := []) C dX8_read_29 (wX8_addReading q7) dd_X8_addReading lk_X8_172 dv_X8_addReading (xco_spec q5) rfl (Nat.le_of_ble_eq_true rfl) (Nat.le_of_ble_eq_true rfl) (Nat.le_of_ble_eq_true rfl) ⟨Nat.le_refl _, Nat.le_refl _⟩ hN ?_
      obtain rfl := Option.some.inj hm
      exact xw_ireturn (pc := 32) C dX8_read_32 rfl hX
    · replace hm := xif_f q hm
      refine xw_sipush (pc := 22) (v := -1001) C dX8_read_22 xk_s_m1001 ?_
      obtain rfl := Option.some.inj hm
      exact xw_ireturn (pc := 25) C dX8_read_25 rfl hX
set_option maxHeartbeats 4000000 in
set_option maxRecDepth 100000 in
theorem wX8_setDisc {l : Launch} {n sl : Nat} {h : XH} {x0 : Nat} {x1 : Int32} {x2 : Int32} {o : Int32 × XH} (hm : fX8_setDisc h x0 x1 x2 = some o) : XM l yX8_setDisc cX8_setDisc 3 (some .int) 4 86 [.ref x0, .int x1, .int x2] h n sl (some (.int o.1)) o.2 n sl := by
  refine xm_of pnX8 [some (.ref x0), some (.int x1), some (.int x2)] 0 rfl (Nat.le_of_ble_eq_true rfl) ?_
  intro X hT C
  replace C : XOK X RX8 cX8_setDisc 3 "setDisc" (some .int) 4 86 := C
  obtain ⟨-, hN, hX⟩ := hT
  unfold fX8_setDisc at hm
  refine xw_iload_n (pc := 0) (i := 1) (x := x1) C dX8_setDisc_0 rfl rfl ?_
  refine xw_iconst (pc := 1) (v := 1) C dX8_setDisc_1 xk_i_1 ?_
  refine xw_bipush (pc := 2) (v := 30) C dX8_setDisc_2 xk_b_30 ?_
  obtain ⟨v1, q2, hm⟩ := xbind hm
  refine xw_callS1 (pc := 4) (As := [.int x1, .int (1 : Int32), .int (30 : Int32)]) (st := []) C dX8_setDisc_4 (wX8_within q2) dd_X8_within lk_X8_44 ds_X8_within rfl (Nat.le_of_ble_eq_true rfl) (Nat.le_of_ble_eq_true rfl) (Nat.le_of_ble_eq_true rfl) ⟨Nat.le_refl _, Nat.le_refl _⟩ hN ?_
  refine xw_if_eqZ (pc := 7) (b := v1) (tgt := 23) C dX8_setDisc_7 (by decide) (fun q => ?_) (fun q => ?_)
  · replace hm := xif_f q hm
    refine xw_sipush (pc := 23) (v := -1001) C dX8_setDisc_23 xk_s_m1001 ?_
    obtain rfl := Option.some.inj hm
    exact xw_ireturn (pc := 26) C dX8_setDisc_26 rfl hX
  · replace hm := xif_t q hm
    refine xw_iload_n (pc := 10) (i := 2) (x := x2) C dX8_setDisc_10 rfl rfl ?_
    refine xw_iconst (pc := 11) (v := 0) C dX8_setDisc_11 xk_i_0 ?_
    refine xw_iconst (pc := 12) (v := 1) C dX8_setDisc_12 xk_i_1 ?_
    refine xw_iload_n (pc := 13) (i := 1) (x := x1) C dX8_setDisc_13 rfl rfl ?_
    refine xw_ishl (pc := 14) C dX8_setDisc_14 ?_
    refine xw_iconst (pc := 15) (v := 1) C dX8_setDisc_15 xk_i_1 ?_
    refine xw_isub (pc := 16) C dX8_setDisc_16 ?_
    obtain ⟨v3, q4, hm⟩ := xbind hm
    refine xw_callS1 (pc := 17) (As := [.int x2, .int (0 : Int32), .int (((1 : Int32) <<< (x1 &&& 31)) - (1 : Int32))]) (st := []) C dX8_setDisc_17 (wX8_within q4) dd_X8_within lk_X8_44 ds_X8_within rfl (Nat.le_of_ble_eq_true rfl) (Nat.le_of_ble_eq_true rfl) (Nat.le_of_ble_eq_true rfl) ⟨Nat.le_refl _, Nat.le_refl _⟩ hN ?_
    refine xw_if_neZ (pc := 20) (b := v3) (tgt := 27) C dX8_setDisc_20 (by decide) (fun q => ?_) (fun q => ?_)
    · replace hm := xif_t q hm
      refine xw_aload_n (pc := 27) (i := 0) (x := x0) C dX8_setDisc_27 rfl rfl ?_
      obtain ⟨v5, q6, hm⟩ := xbind hm
      refine xw_getR (pc := 28) C dX8_setDisc_28 fl_X8_19 q6 ?_
      refine xw_aload_n (pc := 31) (i := 0) (x := x0) C dX8_setDisc_31 rfl rfl ?_
      obtain ⟨v7, q8, hm⟩ := xbind hm
      refine xw_getR (pc := 32) C dX8_setDisc_32 fl_X8_10 q8 ?_
      obtain ⟨_, q9, hm⟩ := xbind hm
      obtain ⟨h10, q11, hm⟩ := xbind hm
      refine xw_callV0 (pc := 35) (As := [.ref v7]) (st := []) C dX8_setDisc_35 (wX3_remember q11) dd_X3_remember lk_X8_63 dv_X3_remember (xco_spec q9) rfl (Nat.le_of_ble_eq_true rfl) (Nat.le_of_ble_eq_true rfl) (Nat.le_of_ble_eq_true rfl) ⟨Nat.le_refl _, Nat.le_refl _⟩ hN ?_
      refine xw_aload_n (pc := 38) (i := 0) (x := x0) C dX8_setDisc_38 rfl rfl ?_
      obtain ⟨v12, q13, hm⟩ := xbind hm
      refine xw_getR (pc := 39) C dX8_setDisc_39 fl_X8_10 q13 ?_
      obtain ⟨v14, q15, hm⟩ := xbind hm
      refine xw_getR (pc := 42) C dX8_setDisc_42 fl_X8_226 q15 ?_
      refine xw_iload_n (pc := 45) (i := 1) (x := x1) C dX8_setDisc_45 rfl rfl ?_
      obtain ⟨h16, q17, hm⟩ := xbind hm
      refine xw_put (pc := 46) C dX8_setDisc_46 fl_X8_230 q17 (fun _ => rfl) (fun _ => rfl) ?_
      refine xw_aload_n (pc := 49) (i := 0) (x := x0) C dX8_setDisc_49 rfl rfl ?_
      obtain ⟨v18, q19, hm⟩ := xbind hm
      refine xw_getR (pc := 50) C dX8_setDisc_50 fl_X8_10 q19 ?_
      obtain ⟨v20, q21, hm⟩ := xbind hm
      refine xw_getR (pc := 53) C dX8_setDisc_53 fl_X8_226 q21 ?_
      refine xw_iload_n (pc := 56) (i := 2) (x := x2) C dX8_setDisc_56 rfl rfl ?_
      obtain ⟨h22, q23, hm⟩ := xbind hm
      refine xw_put (pc := 57) C dX8_setDisc_57 fl_X8_233 q23 (fun _ => rfl) (fun _ => rfl) ?_
      refine xw_iload_n (pc := 60) (i := 2) (x := x2) C dX8_setDisc_60 rfl rfl ?_
      obtain ⟨v24, q25, hm⟩ := xbind hm
      refine xw_callS1 (pc := 61) (As := [.int x2]) (st := []) C dX8_setDisc_61 (wJ6_bitCount_0f7a4 q25) dd_J6_bitCount_0f7a4 lk_X8_236 ds_J6_bitCount_0f7a4 rfl (Nat.le_of_ble_eq_true rfl) (Nat.le_of_ble_eq_true rfl) (Nat.le_of_ble_eq_true rfl) ⟨Nat.le_refl _, Nat.le_refl _⟩ hN ?_
      obtain rfl := Option.some.inj hm
      exact xw_ireturn (pc := 64) C dX8_setDisc_64 rfl hX
    · replace hm := xif_f q hm
      refine xw_sipush (pc := 23) (v := -1001) C dX8_setDisc_23 xk_s_m1001 ?_
      obtain rfl := Option.some.inj hm
      exact xw_ireturn (pc := 26) C dX8_setDisc_26 rfl hX
set_option maxHeartbeats 4000000 in
set_option maxRecDepth 100000 in
theorem wX8_setFlash {l : Launch} {n sl : Nat} {h : XH} {x0 : Nat} {x1 : Int32} {x2 : Int32} {o : Int32 × XH} (hm : fX8_setFlash h x0 x1 x2 = some o) : XM l yX8_setFlash cX8_setFlash 3 (some .int) 4 86 [.ref x0, .int x1, .int x2] h n sl (some (.int o.1)) o.2 n sl := by
  refine xm_of pnX8 [some (.ref x0), some (.int x1), some (.int x2)] 0 rfl (Nat.le_of_ble_eq_true rfl) ?_
  intro X hT C
  replace C : XOK X RX8 cX8_setFlash 3 "setFlash" (some .int) 4 86 := C
  obtain ⟨-, hN, hX⟩ := hT
  unfold fX8_setFlash at hm
  refine xw_iload_n (pc := 0) (i := 1) (x := x1) C dX8_setFlash_0 rfl rfl ?_
  obtain ⟨v1, q2, hm⟩ := xbind hm
  refine xw_callS1 (pc := 1) (As := [.int x1]) (st := []) C dX8_setFlash_1 (wX8_isTick q2) dd_X8_isTick lk_X8_99 ds_X8_isTick rfl (Nat.le_of_ble_eq_true rfl) (Nat.le_of_ble_eq_true rfl) (Nat.le_of_ble_eq_true rfl) ⟨Nat.le_refl _, Nat.le_refl _⟩ hN ?_
  refine xw_if_eqZ (pc := 4) (b := v1) (tgt := 18) C dX8_setFlash_4 (by decide) (fun q => ?_) (fun q => ?_)
  · replace hm := xif_f q hm
    refine xw_sipush (pc := 18) (v := -1001) C dX8_setFlash_18 xk_s_m1001 ?_
    obtain rfl := Option.some.inj hm
    exact xw_ireturn (pc := 21) C dX8_setFlash_21 rfl hX
  · replace hm := xif_t q hm
    refine xw_iload_n (pc := 7) (i := 2) (x := x2) C dX8_setFlash_7 rfl rfl ?_
    refine xw_iconst (pc := 8) (v := 1) C dX8_setFlash_8 xk_i_1 ?_
    refine xw_sipush (pc := 9) (v := 500) C dX8_setFlash_9 xk_s_500 ?_
    obtain ⟨v3, q4, hm⟩ := xbind hm
    refine xw_callS1 (pc := 12) (As := [.int x2, .int (1 : Int32), .int (500 : Int32)]) (st := []) C dX8_setFlash_12 (wX8_within q4) dd_X8_within lk_X8_44 ds_X8_within rfl (Nat.le_of_ble_eq_true rfl) (Nat.le_of_ble_eq_true rfl) (Nat.le_of_ble_eq_true rfl) ⟨Nat.le_refl _, Nat.le_refl _⟩ hN ?_
    refine xw_if_neZ (pc := 15) (b := v3) (tgt := 22) C dX8_setFlash_15 (by decide) (fun q => ?_) (fun q => ?_)
    · replace hm := xif_t q hm
      refine xw_aload_n (pc := 22) (i := 0) (x := x0) C dX8_setFlash_22 rfl rfl ?_
      obtain ⟨v5, q6, hm⟩ := xbind hm
      refine xw_getR (pc := 23) C dX8_setFlash_23 fl_X8_19 q6 ?_
      refine xw_aload_n (pc := 26) (i := 0) (x := x0) C dX8_setFlash_26 rfl rfl ?_
      obtain ⟨v7, q8, hm⟩ := xbind hm
      refine xw_getR (pc := 27) C dX8_setFlash_27 fl_X8_10 q8 ?_
      obtain ⟨_, q9, hm⟩ := xbind hm
      obtain ⟨h10, q11, hm⟩ := xbind hm
      refine xw_callV0 (pc := 30) (As := [.ref v7]) (st := []) C dX8_setFlash_30 (wX3_remember q11) dd_X3_remember lk_X8_63 dv_X3_remember (xco_spec q9) rfl (Nat.le_of_ble_eq_true rfl) (Nat.le_of_ble_eq_true rfl) (Nat.le_of_ble_eq_true rfl) ⟨Nat.le_refl _, Nat.le_refl _⟩ hN ?_
      refine xw_aload_n (pc := 33) (i := 0) (x := x0) C dX8_setFlash_33 rfl rfl ?_
      obtain ⟨v12, q13, hm⟩ := xbind hm
      refine xw_getR (pc := 34) C dX8_setFlash_34 fl_X8_10 q13 ?_
      obtain ⟨v14, q15, hm⟩ := xbind hm
      refine xw_getR (pc := 37) C dX8_setFlash_37 fl_X8_125 q15 ?_
      refine xw_iload_n (pc := 40) (i := 1) (x := x1) C dX8_setFlash_40 rfl rfl ?_
      obtain ⟨h16, q17, hm⟩ := xbind hm
      refine xw_put (pc := 41) C dX8_setFlash_41 fl_X8_129 q17 (fun _ => rfl) (fun _ => rfl) ?_
      refine xw_aload_n (pc := 44) (i := 0) (x := x0) C dX8_setFlash_44 rfl rfl ?_
      obtain ⟨v18, q19, hm⟩ := xbind hm
      refine xw_getR (pc := 45) C dX8_setFlash_45 fl_X8_10 q19 ?_
      obtain ⟨v20, q21, hm⟩ := xbind hm
      refine xw_getR (pc := 48) C dX8_setFlash_48 fl_X8_125 q21 ?_
      refine xw_iload_n (pc := 51) (i := 2) (x := x2) C dX8_setFlash_51 rfl rfl ?_
      obtain ⟨h22, q23, hm⟩ := xbind hm
      refine xw_put (pc := 52) C dX8_setFlash_52 fl_X8_134 q23 (fun _ => rfl) (fun _ => rfl) ?_
      refine xw_aload_n (pc := 55) (i := 0) (x := x0) C dX8_setFlash_55 rfl rfl ?_
      obtain ⟨v24, q25, hm⟩ := xbind hm
      refine xw_getR (pc := 56) C dX8_setFlash_56 fl_X8_10 q25 ?_
      obtain ⟨v26, q27, hm⟩ := xbind hm
      refine xw_getR (pc := 59) C dX8_setFlash_59 fl_X8_125 q27 ?_
      obtain ⟨_, q28, hm⟩ := xbind hm
      obtain ⟨v29, q30, hm⟩ := xbind hm
      refine xw_callV1 (pc := 62) (As := []) (st := []) C dX8_setFlash_62 (wX2_number q30) dd_X2_number lk_X8_137 dv_X2_number (xco_spec q28) rfl (Nat.le_of_ble_eq_true rfl) (Nat.le_of_ble_eq_true rfl) (Nat.le_of_ble_eq_true rfl) ⟨Nat.le_refl _, Nat.le_refl _⟩ hN ?_
      obtain rfl := Option.some.inj hm
      exact xw_ireturn (pc := 65) C dX8_setFlash_65 rfl hX
    · replace hm := xif_f q hm
      refine xw_sipush (pc := 18) (v := -1001) C dX8_setFlash_18 xk_s_m1001 ?_
      obtain rfl := Option.some.inj hm
      exact xw_ireturn (pc := 21) C dX8_setFlash_21 rfl hX
set_option maxHeartbeats 4000000 in
set_option maxRecDepth 100000 in
theorem wX8_setLimit {l : Launch} {n sl : Nat} {h : XH} {x0 : Nat} {x1 : Int32} {o : Int32 × XH} (hm : fX8_setLimit h x0 x1 = some o) : XM l yX8_setLimit cX8_setLimit 3 (some .int) 4 86 [.ref x0, .int x1] h n sl (some (.int o.1)) o.2 n sl := by
  refine xm_of pnX8 [some (.ref x0), some (.int x1), none] 1 rfl (Nat.le_of_ble_eq_true rfl) ?_
  intro X hT C
  replace C : XOK X RX8 cX8_setLimit 3 "setLimit" (some .int) 4 86 := C
  obtain ⟨-, hN, hX⟩ := hT
  unfold fX8_setLimit at hm
  refine xw_iload_n (pc := 0) (i := 1) (x := x1) C dX8_setLimit_0 rfl rfl ?_
  refine xw_iconst (pc := 1) (v := 1) C dX8_setLimit_1 xk_i_1 ?_
  refine xw_sipush (pc := 2) (v := 1000) C dX8_setLimit_2 xk_s_1000 ?_
  obtain ⟨v1, q2, hm⟩ := xbind hm
  refine xw_callS1 (pc := 5) (As := [.int x1, .int (1 : Int32), .int (1000 : Int32)]) (st := []) C dX8_setLimit_5 (wX8_within q2) dd_X8_within lk_X8_44 ds_X8_within rfl (Nat.le_of_ble_eq_true rfl) (Nat.le_of_ble_eq_true rfl) (Nat.le_of_ble_eq_true rfl) ⟨Nat.le_refl _, Nat.le_refl _⟩ hN ?_
  refine xw_if_neZ (pc := 8) (b := v1) (tgt := 15) C dX8_setLimit_8 (by decide) (fun q => ?_) (fun q => ?_)
  · replace hm := xif_t q hm
    refine xw_aload_n (pc := 15) (i := 0) (x := x0) C dX8_setLimit_15 rfl rfl ?_
    obtain ⟨v3, q4, hm⟩ := xbind hm
    refine xw_getR (pc := 16) C dX8_setLimit_16 fl_X8_19 q4 ?_
    refine xw_aload_n (pc := 19) (i := 0) (x := x0) C dX8_setLimit_19 rfl rfl ?_
    obtain ⟨v5, q6, hm⟩ := xbind hm
    refine xw_getR (pc := 20) C dX8_setLimit_20 fl_X8_10 q6 ?_
    obtain ⟨_, q7, hm⟩ := xbind hm
    obtain ⟨h8, q9, hm⟩ := xbind hm
    refine xw_callV0 (pc := 23) (As := [.ref v5]) (st := []) C dX8_setLimit_23 (wX3_remember q9) dd_X3_remember lk_X8_63 dv_X3_remember (xco_spec q7) rfl (Nat.le_of_ble_eq_true rfl) (Nat.le_of_ble_eq_true rfl) (Nat.le_of_ble_eq_true rfl) ⟨Nat.le_refl _, Nat.le_refl _⟩ hN ?_
    refine xw_aload_n (pc := 26) (i := 0) (x := x0) C dX8_setLimit_26 rfl rfl ?_
    obtain ⟨v10, q11, hm⟩ := xbind hm
    refine xw_getR (pc := 27) C dX8_setLimit_27 fl_X8_10 q11 ?_
    obtain ⟨v12, q13, hm⟩ := xbind hm
    refine xw_getR (pc := 30) C dX8_setLimit_30 fl_X8_181 q13 ?_
    obtain ⟨v14, q15, hm⟩ := xbind hm
    refine xw_getI (pc := 33) C dX8_setLimit_33 fl_X8_208 q15 ?_
    refine xw_istore_n (pc := 36) (i := 2) (x := v14) (L' := [some (.ref x0), some (.int x1), some (.int v14)]) C dX8_setLimit_36 rfl (Nat.le_of_ble_eq_true rfl) rfl ?_
    refine xw_aload_n (pc := 37) (i := 0) (x := x0) C dX8_setLimit_37 rfl rfl ?_
    obtain ⟨v16, q17, hm⟩ := xbind hm
    refine xw_getR (pc := 38) C dX8_setLimit_38 fl_X8_10 q17 ?_
    obtain ⟨v18, q19, hm⟩ := xbind hm
    refine xw_getR (pc := 41) C dX8_setLimit_41 fl_X8_181 q19 ?_
    refine xw_iload_n (pc := 44) (i := 1) (x := x1) C dX8_setLimit_44 rfl rfl ?_
    obtain ⟨h20, q21, hm⟩ := xbind hm
    refine xw_put (pc := 45) C dX8_setLimit_45 fl_X8_208 q21 (fun _ => rfl) (fun _ => rfl) ?_
    refine xw_iload_n (pc := 48) (i := 2) (x := v14) C dX8_setLimit_48 rfl rfl ?_
    obtain rfl := Option.some.inj hm
    exact xw_ireturn (pc := 49) C dX8_setLimit_49 rfl hX
  · replace hm := xif_f q hm
    refine xw_sipush (pc := 11) (v := -1001) C dX8_setLimit_11 xk_s_m1001 ?_
    obtain rfl := Option.some.inj hm
    exact xw_ireturn (pc := 14) C dX8_setLimit_14 rfl hX
set_option maxHeartbeats 4000000 in
set_option maxRecDepth 100000 in
theorem wX8_setMark {l : Launch} {n sl : Nat} {h : XH} {x0 : Nat} {x1 : Int32} {x2 : Int32} {o : Int32 × XH} (hm : fX8_setMark h x0 x1 x2 = some o) : XM l yX8_setMark cX8_setMark 4 (some .int) 4 86 [.ref x0, .int x1, .int x2] h n sl (some (.int o.1)) o.2 n sl := by
  refine xm_of pnX8 [some (.ref x0), some (.int x1), some (.int x2), none] 1 rfl (Nat.le_of_ble_eq_true rfl) ?_
  intro X hT C
  replace C : XOK X RX8 cX8_setMark 4 "setMark" (some .int) 4 86 := C
  obtain ⟨-, hN, hX⟩ := hT
  unfold fX8_setMark at hm
  refine xw_aload_n (pc := 0) (i := 0) (x := x0) C dX8_setMark_0 rfl rfl ?_
  refine xw_iload_n (pc := 1) (i := 1) (x := x1) C dX8_setMark_1 rfl rfl ?_
  obtain ⟨_, q1, hm⟩ := xbind hm
  obtain ⟨v2, q3, hm⟩ := xbind hm
  refine xw_callV1 (pc := 2) (As := [.int x1]) (st := []) C dX8_setMark_2 (wX8_isPlace q3) dd_X8_isPlace lk_X8_80 dv_X8_isPlace (xco_spec q1) rfl (Nat.le_of_ble_eq_true rfl) (Nat.le_of_ble_eq_true rfl) (Nat.le_of_ble_eq_true rfl) ⟨Nat.le_refl _, Nat.le_refl _⟩ hN ?_
  refine xw_if_eqZ (pc := 5) (b := v2) (tgt := 17) C dX8_setMark_5 (by decide) (fun q => ?_) (fun q => ?_)
  · replace hm := xif_f q hm
    refine xw_sipush (pc := 17) (v := -1001) C dX8_setMark_17 xk_s_m1001 ?_
    obtain rfl := Option.some.inj hm
    exact xw_ireturn (pc := 20) C dX8_setMark_20 rfl hX
  · replace hm := xif_t q hm
    refine xw_iload_n (pc := 8) (i := 2) (x := x2) C dX8_setMark_8 rfl rfl ?_
    refine xw_iconst (pc := 9) (v := 0) C dX8_setMark_9 xk_i_0 ?_
    refine xw_iconst (pc := 10) (v := 3) C dX8_setMark_10 xk_i_3 ?_
    obtain ⟨v4, q5, hm⟩ := xbind hm
    refine xw_callS1 (pc := 11) (As := [.int x2, .int (0 : Int32), .int (3 : Int32)]) (st := []) C dX8_setMark_11 (wX8_within q5) dd_X8_within lk_X8_44 ds_X8_within rfl (Nat.le_of_ble_eq_true rfl) (Nat.le_of_ble_eq_true rfl) (Nat.le_of_ble_eq_true rfl) ⟨Nat.le_refl _, Nat.le_refl _⟩ hN ?_
    refine xw_if_neZ (pc := 14) (b := v4) (tgt := 21) C dX8_setMark_14 (by decide) (fun q => ?_) (fun q => ?_)
    · replace hm := xif_t q hm
      refine xw_aload_n (pc := 21) (i := 0) (x := x0) C dX8_setMark_21 rfl rfl ?_
      obtain ⟨v6, q7, hm⟩ := xbind hm
      refine xw_getR (pc := 22) C dX8_setMark_22 fl_X8_19 q7 ?_
      refine xw_aload_n (pc := 25) (i := 0) (x := x0) C dX8_setMark_25 rfl rfl ?_
      obtain ⟨v8, q9, hm⟩ := xbind hm
      refine xw_getR (pc := 26) C dX8_setMark_26 fl_X8_10 q9 ?_
      obtain ⟨_, q10, hm⟩ := xbind hm
      obtain ⟨h11, q12, hm⟩ := xbind hm
      refine xw_callV0 (pc := 29) (As := [.ref v8]) (st := []) C dX8_setMark_29 (wX3_remember q12) dd_X3_remember lk_X8_63 dv_X3_remember (xco_spec q10) rfl (Nat.le_of_ble_eq_true rfl) (Nat.le_of_ble_eq_true rfl) (Nat.le_of_ble_eq_true rfl) ⟨Nat.le_refl _, Nat.le_refl _⟩ hN ?_
      refine xw_aload_n (pc := 32) (i := 0) (x := x0) C dX8_setMark_32 rfl rfl ?_
      obtain ⟨v13, q14, hm⟩ := xbind hm
      refine xw_getR (pc := 33) C dX8_setMark_33 fl_X8_10 q14 ?_
      obtain ⟨v15, q16, hm⟩ := xbind hm
      refine xw_getR (pc := 36) C dX8_setMark_36 fl_X8_67 q16 ?_
      refine xw_iload_n (pc := 39) (i := 1) (x := x1) C dX8_setMark_39 rfl rfl ?_
      obtain ⟨_, q17, hm⟩ := xbind hm
      obtain ⟨v18, q19, hm⟩ := xbind hm
      refine xw_callV1 (pc := 40) (As := [.int x1]) (st := []) C dX8_setMark_40 (wX6_markOf q19) dd_X6_markOf lk_X8_84 dv_X6_markOf (xco_spec q17) rfl (Nat.le_of_ble_eq_true rfl) (Nat.le_of_ble_eq_true rfl) (Nat.le_of_ble_eq_true rfl) ⟨Nat.le_refl _, Nat.le_refl _⟩ hN ?_
      refine xw_istore_n (pc := 43) (i := 3) (x := v18) (L' := [some (.ref x0), some (.int x1), some (.int x2), some (.int v18)]) C dX8_setMark_43 rfl (Nat.le_of_ble_eq_true rfl) rfl ?_
      refine xw_aload_n (pc := 44) (i := 0) (x := x0) C dX8_setMark_44 rfl rfl ?_
      obtain ⟨v20, q21, hm⟩ := xbind hm
      refine xw_getR (pc := 45) C dX8_setMark_45 fl_X8_10 q21 ?_
      obtain ⟨v22, q23, hm⟩ := xbind hm
      refine xw_getR (pc := 48) C dX8_setMark_48 fl_X8_67 q23 ?_
      obtain ⟨v24, q25, hm⟩ := xbind hm
      refine xw_getR (pc := 51) C dX8_setMark_51 fl_X8_88 q25 ?_
      refine xw_iload_n (pc := 54) (i := 1) (x := x1) C dX8_setMark_54 rfl rfl ?_
      refine xw_iload_n (pc := 55) (i := 2) (x := x2) C dX8_setMark_55 rfl rfl ?_
      obtain ⟨h26, q27, hm⟩ := xbind hm
      refine xw_callS0 (pc := 56) (As := [.ref v24, .int x1, .int x2]) (st := []) C dX8_setMark_56 (wX8_put q27) dd_X8_put lk_X8_92 ds_X8_put rfl (Nat.le_of_ble_eq_true rfl) (Nat.le_of_ble_eq_true rfl) (Nat.le_of_ble_eq_true rfl) ⟨Nat.le_refl _, Nat.le_refl _⟩ hN ?_
      refine xw_iload_n (pc := 59) (i := 3) (x := v18) C dX8_setMark_59 rfl rfl ?_
      obtain rfl := Option.some.inj hm
      exact xw_ireturn (pc := 60) C dX8_setMark_60 rfl hX
    · replace hm := xif_f q hm
      refine xw_sipush (pc := 17) (v := -1001) C dX8_setMark_17 xk_s_m1001 ?_
      obtain rfl := Option.some.inj hm
      exact xw_ireturn (pc := 20) C dX8_setMark_20 rfl hX
set_option maxHeartbeats 4000000 in
set_option maxRecDepth 100000 in
theorem wX8_setSpeed {l : Launch} {n sl : Nat} {h : XH} {x0 : Nat} {x1 : Int32} {x2 : Int32} {o : Int32 × XH} (hm : fX8_setSpeed h x0 x1 x2 = some o) : XM l yX8_setSpeed cX8_setSpeed 3 (some .int) 4 88 [.ref x0, .int x1, .int x2] h n sl (some (.int o.1)) o.2 n sl := by
  refine xm_of pnX8 [some (.ref x0), some (.int x1), some (.int x2)] 0 rfl (Nat.le_of_ble_eq_true rfl) ?_
  intro X hT C
  replace C : XOK X RX8 cX8_setSpeed 3 "setSpeed" (some .int) 4 88 := C
  obtain ⟨-, hN, hX⟩ := hT
  unfold fX8_setSpeed at hm
  refine xw_iload_n (pc := 0) (i := 1) (x := x1) C dX8_setSpeed_0 rfl rfl ?_
  obtain ⟨v1, q2, hm⟩ := xbind hm
  refine xw_callS1 (pc := 1) (As := [.int x1]) (st := []) C dX8_setSpeed_1 (wX8_isTick q2) dd_X8_isTick lk_X8_99 ds_X8_isTick rfl (Nat.le_of_ble_eq_true rfl) (Nat.le_of_ble_eq_true rfl) (Nat.le_of_ble_eq_true rfl) ⟨Nat.le_refl _, Nat.le_refl _⟩ hN ?_
  refine xw_if_eqZ (pc := 4) (b := v1) (tgt := 20) C dX8_setSpeed_4 (by decide) (fun q => ?_) (fun q => ?_)
  · replace hm := xif_f q hm
    refine xw_sipush (pc := 20) (v := -1001) C dX8_setSpeed_20 xk_s_m1001 ?_
    obtain rfl := Option.some.inj hm
    exact xw_ireturn (pc := 23) C dX8_setSpeed_23 rfl hX
  · replace hm := xif_t q hm
    refine xw_iload_n (pc := 7) (i := 2) (x := x2) C dX8_setSpeed_7 rfl rfl ?_
    refine xw_sipush (pc := 8) (v := -1000) C dX8_setSpeed_8 xk_s_m1000 ?_
    refine xw_sipush (pc := 11) (v := 1000) C dX8_setSpeed_11 xk_s_1000 ?_
    obtain ⟨v3, q4, hm⟩ := xbind hm
    refine xw_callS1 (pc := 14) (As := [.int x2, .int (-1000 : Int32), .int (1000 : Int32)]) (st := []) C dX8_setSpeed_14 (wX8_within q4) dd_X8_within lk_X8_44 ds_X8_within rfl (Nat.le_of_ble_eq_true rfl) (Nat.le_of_ble_eq_true rfl) (Nat.le_of_ble_eq_true rfl) ⟨Nat.le_refl _, Nat.le_refl _⟩ hN ?_
    refine xw_if_neZ (pc := 17) (b := v3) (tgt := 24) C dX8_setSpeed_17 (by decide) (fun q => ?_) (fun q => ?_)
    · replace hm := xif_t q hm
      refine xw_aload_n (pc := 24) (i := 0) (x := x0) C dX8_setSpeed_24 rfl rfl ?_
      obtain ⟨v5, q6, hm⟩ := xbind hm
      refine xw_getR (pc := 25) C dX8_setSpeed_25 fl_X8_10 q6 ?_
      obtain ⟨v7, q8, hm⟩ := xbind hm
      refine xw_getR (pc := 28) C dX8_setSpeed_28 fl_X8_67 q8 ?_
      refine xw_iload_n (pc := 31) (i := 1) (x := x1) C dX8_setSpeed_31 rfl rfl ?_
      obtain ⟨_, q9, hm⟩ := xbind hm
      obtain ⟨v10, q11, hm⟩ := xbind hm
      refine xw_callV1 (pc := 32) (As := [.int x1]) (st := []) C dX8_setSpeed_32 (wX6_hasRoomFor q11) dd_X6_hasRoomFor lk_X8_102 dv_X6_hasRoomFor (xco_spec q9) rfl (Nat.le_of_ble_eq_true rfl) (Nat.le_of_ble_eq_true rfl) (Nat.le_of_ble_eq_true rfl) ⟨Nat.le_refl _, Nat.le_refl _⟩ hN ?_
      refine xw_if_neZ (pc := 35) (b := v10) (tgt := 42) C dX8_setSpeed_35 (by decide) (fun q => ?_) (fun q => ?_)
      · replace hm := xif_t q hm
        refine xw_aload_n (pc := 42) (i := 0) (x := x0) C dX8_setSpeed_42 rfl rfl ?_
        obtain ⟨v12, q13, hm⟩ := xbind hm
        refine xw_getR (pc := 43) C dX8_setSpeed_43 fl_X8_19 q13 ?_
        refine xw_aload_n (pc := 46) (i := 0) (x := x0) C dX8_setSpeed_46 rfl rfl ?_
        obtain ⟨v14, q15, hm⟩ := xbind hm
        refine xw_getR (pc := 47) C dX8_setSpeed_47 fl_X8_10 q15 ?_
        obtain ⟨_, q16, hm⟩ := xbind hm
        obtain ⟨h17, q18, hm⟩ := xbind hm
        refine xw_callV0 (pc := 50) (As := [.ref v14]) (st := []) C dX8_setSpeed_50 (wX3_remember q18) dd_X3_remember lk_X8_63 dv_X3_remember (xco_spec q16) rfl (Nat.le_of_ble_eq_true rfl) (Nat.le_of_ble_eq_true rfl) (Nat.le_of_ble_eq_true rfl) ⟨Nat.le_refl _, Nat.le_refl _⟩ hN ?_
        refine xw_aload_n (pc := 53) (i := 0) (x := x0) C dX8_setSpeed_53 rfl rfl ?_
        obtain ⟨v19, q20, hm⟩ := xbind hm
        refine xw_getR (pc := 54) C dX8_setSpeed_54 fl_X8_10 q20 ?_
        obtain ⟨v21, q22, hm⟩ := xbind hm
        refine xw_getR (pc := 57) C dX8_setSpeed_57 fl_X8_67 q22 ?_
        refine xw_iload_n (pc := 60) (i := 1) (x := x1) C dX8_setSpeed_60 rfl rfl ?_
        refine xw_iload_n (pc := 61) (i := 2) (x := x2) C dX8_setSpeed_61 rfl rfl ?_
        obtain ⟨_, q23, hm⟩ := xbind hm
        obtain ⟨h24, q25, hm⟩ := xbind hm
        refine xw_callV0 (pc := 62) (As := [.int x1, .int x2]) (st := []) C dX8_setSpeed_62 (wX6_putSpeed q25) dd_X6_putSpeed lk_X8_105 dv_X6_putSpeed (xco_spec q23) rfl (Nat.le_of_ble_eq_true rfl) (Nat.le_of_ble_eq_true rfl) (Nat.le_of_ble_eq_true rfl) ⟨Nat.le_refl _, Nat.le_refl _⟩ hN ?_
        refine xw_aload_n (pc := 65) (i := 0) (x := x0) C dX8_setSpeed_65 rfl rfl ?_
        obtain ⟨v26, q27, hm⟩ := xbind hm
        refine xw_getR (pc := 66) C dX8_setSpeed_66 fl_X8_10 q27 ?_
        obtain ⟨v28, q29, hm⟩ := xbind hm
        refine xw_getR (pc := 69) C dX8_setSpeed_69 fl_X8_67 q29 ?_
        obtain ⟨v30, q31, hm⟩ := xbind hm
        refine xw_getI (pc := 72) C dX8_setSpeed_72 fl_X8_109 q31 ?_
        obtain rfl := Option.some.inj hm
        exact xw_ireturn (pc := 75) C dX8_setSpeed_75 rfl hX
      · replace hm := xif_f q hm
        refine xw_sipush (pc := 38) (v := -1003) C dX8_setSpeed_38 xk_s_m1003 ?_
        obtain rfl := Option.some.inj hm
        exact xw_ireturn (pc := 41) C dX8_setSpeed_41 rfl hX
    · replace hm := xif_f q hm
      refine xw_sipush (pc := 20) (v := -1001) C dX8_setSpeed_20 xk_s_m1001 ?_
      obtain rfl := Option.some.inj hm
      exact xw_ireturn (pc := 23) C dX8_setSpeed_23 rfl hX
set_option maxHeartbeats 4000000 in
set_option maxRecDepth 100000 in
theorem wX8_setStart {l : Launch} {n sl : Nat} {h : XH} {x0 : Nat} {x1 : Int32} {o : Int32 × XH} (hm : fX8_setStart h x0 x1 = some o) : XM l yX8_setStart cX8_setStart 3 (some .int) 4 86 [.ref x0, .int x1] h n sl (some (.int o.1)) o.2 n sl := by
  refine xm_of pnX8 [some (.ref x0), some (.int x1), none] 1 rfl (Nat.le_of_ble_eq_true rfl) ?_
  intro X hT C
  replace C : XOK X RX8 cX8_setStart 3 "setStart" (some .int) 4 86 := C
  obtain ⟨-, hN, hX⟩ := hT
  unfold fX8_setStart at hm
  refine xw_iload_n (pc := 0) (i := 1) (x := x1) C dX8_setStart_0 rfl rfl ?_
  refine xw_iconst (pc := 1) (v := 0) C dX8_setStart_1 xk_i_0 ?_
  refine xw_bipush (pc := 2) (v := 59) C dX8_setStart_2 xk_b_59 ?_
  obtain ⟨v1, q2, hm⟩ := xbind hm
  refine xw_callS1 (pc := 4) (As := [.int x1, .int (0 : Int32), .int (59 : Int32)]) (st := []) C dX8_setStart_4 (wX8_within q2) dd_X8_within lk_X8_44 ds_X8_within rfl (Nat.le_of_ble_eq_true rfl) (Nat.le_of_ble_eq_true rfl) (Nat.le_of_ble_eq_true rfl) ⟨Nat.le_refl _, Nat.le_refl _⟩ hN ?_
  refine xw_if_neZ (pc := 7) (b := v1) (tgt := 14) C dX8_setStart_7 (by decide) (fun q => ?_) (fun q => ?_)
  · replace hm := xif_t q hm
    refine xw_aload_n (pc := 14) (i := 0) (x := x0) C dX8_setStart_14 rfl rfl ?_
    obtain ⟨v3, q4, hm⟩ := xbind hm
    refine xw_getR (pc := 15) C dX8_setStart_15 fl_X8_19 q4 ?_
    refine xw_aload_n (pc := 18) (i := 0) (x := x0) C dX8_setStart_18 rfl rfl ?_
    obtain ⟨v5, q6, hm⟩ := xbind hm
    refine xw_getR (pc := 19) C dX8_setStart_19 fl_X8_10 q6 ?_
    obtain ⟨_, q7, hm⟩ := xbind hm
    obtain ⟨h8, q9, hm⟩ := xbind hm
    refine xw_callV0 (pc := 22) (As := [.ref v5]) (st := []) C dX8_setStart_22 (wX3_remember q9) dd_X3_remember lk_X8_63 dv_X3_remember (xco_spec q7) rfl (Nat.le_of_ble_eq_true rfl) (Nat.le_of_ble_eq_true rfl) (Nat.le_of_ble_eq_true rfl) ⟨Nat.le_refl _, Nat.le_refl _⟩ hN ?_
    refine xw_aload_n (pc := 25) (i := 0) (x := x0) C dX8_setStart_25 rfl rfl ?_
    obtain ⟨v10, q11, hm⟩ := xbind hm
    refine xw_getR (pc := 26) C dX8_setStart_26 fl_X8_10 q11 ?_
    obtain ⟨v12, q13, hm⟩ := xbind hm
    refine xw_getR (pc := 29) C dX8_setStart_29 fl_X8_67 q13 ?_
    obtain ⟨v14, q15, hm⟩ := xbind hm
    refine xw_getI (pc := 32) C dX8_setStart_32 fl_X8_96 q15 ?_
    refine xw_istore_n (pc := 35) (i := 2) (x := v14) (L' := [some (.ref x0), some (.int x1), some (.int v14)]) C dX8_setStart_35 rfl (Nat.le_of_ble_eq_true rfl) rfl ?_
    refine xw_aload_n (pc := 36) (i := 0) (x := x0) C dX8_setStart_36 rfl rfl ?_
    obtain ⟨v16, q17, hm⟩ := xbind hm
    refine xw_getR (pc := 37) C dX8_setStart_37 fl_X8_10 q17 ?_
    obtain ⟨v18, q19, hm⟩ := xbind hm
    refine xw_getR (pc := 40) C dX8_setStart_40 fl_X8_67 q19 ?_
    refine xw_iload_n (pc := 43) (i := 1) (x := x1) C dX8_setStart_43 rfl rfl ?_
    obtain ⟨h20, q21, hm⟩ := xbind hm
    refine xw_put (pc := 44) C dX8_setStart_44 fl_X8_96 q21 (fun _ => rfl) (fun _ => rfl) ?_
    refine xw_iload_n (pc := 47) (i := 2) (x := v14) C dX8_setStart_47 rfl rfl ?_
    obtain rfl := Option.some.inj hm
    exact xw_ireturn (pc := 48) C dX8_setStart_48 rfl hX
  · replace hm := xif_f q hm
    refine xw_sipush (pc := 10) (v := -1001) C dX8_setStart_10 xk_s_m1001 ?_
    obtain rfl := Option.some.inj hm
    exact xw_ireturn (pc := 13) C dX8_setStart_13 rfl hX
def fX8_stillPeriod_P40 (X : XCtx) (h : XH) (x0 : Nat) (x2 : Int32) (x3 : Int32) (n sl : Nat) (s : Int32) : Prop := XW X 40 [some (.ref x0), none, some (.int x2), some (.int x3), some (.int s)] [] h n sl
def fX8_stillPeriod_E40 (X : XCtx) (h : XH) (x0 : Nat) (x2 : Int32) (x3 : Int32) (n sl : Nat) (e : (Int32 ⊕ Unit)) : Prop := match e with
  | .inl e => XW X 66 [none, none, none, none, some (.int e)] [] h n sl
  | .inr e => XW X 75 [none, none, none, none, none] [] h n sl
set_option maxHeartbeats 4000000 in
set_option maxRecDepth 100000 in
theorem fX8_stillPeriod_B40_w {X : XCtx} (C : XOK X RX8 cX8_stillPeriod 5 "stillPeriod" (some .int) 3 64) {n sl : Nat} (hN : XN X n sl) {h : XH} {x0 : Nat} {x2 : Int32} {x3 : Int32} (s : Int32) (o : Int32 ⊕ (Int32 ⊕ Unit)) (hm : fX8_stillPeriod_B40 h x0 x2 x3 s = some o) (hc : ∀ s', o = .inl s' → fX8_stillPeriod_P40 X h x0 x2 x3 n sl s') (he : ∀ e', o = .inr e' → fX8_stillPeriod_E40 X h x0 x2 x3 n sl e') : fX8_stillPeriod_P40 X h x0 x2 x3 n sl s := by
  revert s; intro x4 hm
  show XW X 40 [some (.ref x0), none, some (.int x2), some (.int x3), some (.int x4)] [] h n sl
  replace hm : fX8_stillPeriod_b40 h x0 x2 x3 x4 = some o := hm
  unfold fX8_stillPeriod_b40 at hm
  refine xw_iload (pc := 40) (i := 4) (x := x4) C dX8_stillPeriod_40 rfl ?_
  refine xw_iload_n (pc := 42) (i := 2) (x := x2) C dX8_stillPeriod_42 rfl rfl ?_
  refine xw_icmp_gt (pc := 43) (tgt := 75) C dX8_stillPeriod_43 (by decide) (fun q => ?_) (fun q => ?_)
  · replace hm := xif_t q hm
    obtain rfl := Option.some.inj hm
    refine xw_sub (pc := 75) _ ?_ (he _ rfl)
    exact ⟨Or.inl rfl, Or.inl rfl, Or.inl rfl, Or.inl rfl, Or.inl rfl, trivial⟩
  · replace hm := xif_f q hm
    refine xw_aload_n (pc := 46) (i := 0) (x := x0) C dX8_stillPeriod_46 rfl rfl ?_
    obtain ⟨v12, q13, hm⟩ := xbind hm
    refine xw_getR (pc := 47) C dX8_stillPeriod_47 fl_X8_10 q13 ?_
    obtain ⟨v14, q15, hm⟩ := xbind hm
    refine xw_getR (pc := 50) C dX8_stillPeriod_50 fl_X8_67 q15 ?_
    obtain ⟨v16, q17, hm⟩ := xbind hm
    refine xw_getI (pc := 53) C dX8_stillPeriod_53 fl_X8_169 q17 ?_
    refine xw_iload (pc := 56) (i := 4) (x := x4) C dX8_stillPeriod_56 rfl ?_
    refine xw_imul (pc := 58) C dX8_stillPeriod_58 ?_
    refine xw_iload_n (pc := 59) (i := 3) (x := x3) C dX8_stillPeriod_59 rfl rfl ?_
    obtain ⟨v18, q19, hm⟩ := xbind hm
    refine xw_callS1 (pc := 60) (As := [.int (v16 * x4), .int x3]) (st := []) C dX8_stillPeriod_60 (wX8_mod q19) dd_X8_mod lk_X8_121 ds_X8_mod rfl (Nat.le_of_ble_eq_true rfl) (Nat.le_of_ble_eq_true rfl) (Nat.le_of_ble_eq_true rfl) ⟨Nat.le_refl _, Nat.le_refl _⟩ hN ?_
    refine xw_if_ne (pc := 63) (tgt := 69) C dX8_stillPeriod_63 (by decide) (fun q => ?_) (fun q => ?_)
    · replace hm := xif_f q hm
      refine xw_iinc (pc := 69) (i := 4) (x := x4) (v := (x4 + (1 : Int32))) (L' := [some (.ref x0), none, some (.int x2), some (.int x3), some (.int (x4 + (1 : Int32)))]) C dX8_stillPeriod_69 rfl (congrArg (HAdd.hAdd _) xk_i_1) (Nat.le_of_ble_eq_true rfl) rfl ?_
      refine xw_goto (pc := 72) (tgt := 40) C dX8_stillPeriod_72 (by decide) ?_
      obtain rfl := Option.some.inj hm
      refine xw_sub (pc := 40) _ ?_ (hc _ rfl)
      exact ⟨Or.inr rfl, Or.inl rfl, Or.inr rfl, Or.inr rfl, Or.inr rfl, trivial⟩
    · replace hm := xif_t q hm
      obtain rfl := Option.some.inj hm
      refine xw_sub (pc := 66) _ ?_ (he _ rfl)
      exact ⟨Or.inl rfl, Or.inl rfl, Or.inl rfl, Or.inl rfl, Or.inr rfl, trivial⟩
set_option maxHeartbeats 4000000 in
set_option maxRecDepth 100000 in
theorem wX8_stillPeriod {l : Launch} {n sl : Nat} {h : XH} {x0 : Nat} {x1 : Int32} {x2 : Int32} {o : Int32} (hm : fX8_stillPeriod h x0 x1 x2 = some o) : XM l yX8_stillPeriod cX8_stillPeriod 5 (some .int) 3 64 [.ref x0, .int x1, .int x2] h n sl (some (.int o)) h n sl := by
  refine xm_of pnX8 [some (.ref x0), some (.int x1), some (.int x2), none, none] 2 rfl (Nat.le_of_ble_eq_true rfl) ?_
  intro X hT C
  replace C : XOK X RX8 cX8_stillPeriod 5 "stillPeriod" (some .int) 3 64 := C
  obtain ⟨-, hN, hX⟩ := hT
  unfold fX8_stillPeriod at hm
  refine xw_iload_n (pc := 0) (i := 1) (x := x1) C dX8_stillPeriod_0 rfl rfl ?_
  refine xw_iconst (pc := 1) (v := 1) C dX8_stillPeriod_1 xk_i_1 ?_
  refine xw_sipush (pc := 2) (v := 500) C dX8_stillPeriod_2 xk_s_500 ?_
  obtain ⟨v1, q2, hm⟩ := xbind hm
  refine xw_callS1 (pc := 5) (As := [.int x1, .int (1 : Int32), .int (500 : Int32)]) (st := []) C dX8_stillPeriod_5 (wX8_within q2) dd_X8_within lk_X8_44 ds_X8_within rfl (Nat.le_of_ble_eq_true rfl) (Nat.le_of_ble_eq_true rfl) (Nat.le_of_ble_eq_true rfl) ⟨Nat.le_refl _, Nat.le_refl _⟩ hN ?_
  refine xw_if_eqZ (pc := 8) (b := v1) (tgt := 22) C dX8_stillPeriod_8 (by decide) (fun q => ?_) (fun q => ?_)
  · replace hm := xif_f q hm
    refine xw_sipush (pc := 22) (v := -1001) C dX8_stillPeriod_22 xk_s_m1001 ?_
    obtain rfl := Option.some.inj hm
    exact xw_ireturn (pc := 25) C dX8_stillPeriod_25 rfl hX
  · replace hm := xif_t q hm
    refine xw_iload_n (pc := 11) (i := 2) (x := x2) C dX8_stillPeriod_11 rfl rfl ?_
    refine xw_iload_n (pc := 12) (i := 1) (x := x1) C dX8_stillPeriod_12 rfl rfl ?_
    refine xw_sipush (pc := 13) (v := 500) C dX8_stillPeriod_13 xk_s_500 ?_
    obtain ⟨v3, q4, hm⟩ := xbind hm
    refine xw_callS1 (pc := 16) (As := [.int x2, .int x1, .int (500 : Int32)]) (st := []) C dX8_stillPeriod_16 (wX8_within q4) dd_X8_within lk_X8_44 ds_X8_within rfl (Nat.le_of_ble_eq_true rfl) (Nat.le_of_ble_eq_true rfl) (Nat.le_of_ble_eq_true rfl) ⟨Nat.le_refl _, Nat.le_refl _⟩ hN ?_
    refine xw_if_neZ (pc := 19) (b := v3) (tgt := 26) C dX8_stillPeriod_19 (by decide) (fun q => ?_) (fun q => ?_)
    · replace hm := xif_t q hm
      refine xw_aload_n (pc := 26) (i := 0) (x := x0) C dX8_stillPeriod_26 rfl rfl ?_
      obtain ⟨v5, q6, hm⟩ := xbind hm
      refine xw_getR (pc := 27) C dX8_stillPeriod_27 fl_X8_10 q6 ?_
      obtain ⟨v7, q8, hm⟩ := xbind hm
      refine xw_getR (pc := 30) C dX8_stillPeriod_30 fl_X8_67 q8 ?_
      obtain ⟨_, q9, hm⟩ := xbind hm
      obtain ⟨v10, q11, hm⟩ := xbind hm
      refine xw_callV1 (pc := 33) (As := []) (st := []) C dX8_stillPeriod_33 (wX6_measure q11) dd_X6_measure lk_X8_156 dv_X6_measure (xco_spec q9) rfl (Nat.le_of_ble_eq_true rfl) (Nat.le_of_ble_eq_true rfl) (Nat.le_of_ble_eq_true rfl) ⟨Nat.le_refl _, Nat.le_refl _⟩ hN ?_
      refine xw_istore_n (pc := 36) (i := 3) (x := v10) (L' := [some (.ref x0), some (.int x1), some (.int x2), some (.int v10), none]) C dX8_stillPeriod_36 rfl (Nat.le_of_ble_eq_true rfl) rfl ?_
      refine xw_iload_n (pc := 37) (i := 1) (x := x1) C dX8_stillPeriod_37 rfl rfl ?_
      refine xw_istore (pc := 38) (i := 4) (x := x1) (L' := [some (.ref x0), some (.int x1), some (.int x2), some (.int v10), some (.int x1)]) C dX8_stillPeriod_38 (Nat.le_of_ble_eq_true rfl) rfl ?_
      obtain ⟨e20, q21, hm⟩ := xbind hm
      refine xw_sub (pc := 40) [some (.ref x0), none, some (.int x2), some (.int v10), some (.int x1)] ⟨Or.inr rfl, Or.inl rfl, Or.inr rfl, Or.inr rfl, Or.inr rfl, trivial⟩ ?_
      refine xloop_walk (fX8_stillPeriod_B40 h x0 x2 v10) (fX8_stillPeriod_P40 X h x0 x2 v10 n sl) (fX8_stillPeriod_E40 X h x0 x2 v10 n sl) (fun s' o' => fX8_stillPeriod_B40_w C hN s' o') 5000 x1 e20 q21 ?_
      rcases e20 with e20 | e20
      · dsimp only at hm
        show XW X 66 [none, none, none, none, some (.int e20)] [] h n sl
        refine xw_iload (pc := 66) (i := 4) (x := e20) C dX8_stillPeriod_66 rfl ?_
        obtain rfl := Option.some.inj hm
        exact xw_ireturn (pc := 68) C dX8_stillPeriod_68 rfl hX
      · dsimp only at hm
        show XW X 75 [none, none, none, none, none] [] h n sl
        refine xw_sipush (pc := 75) (v := -1004) C dX8_stillPeriod_75 xk_s_m1004 ?_
        obtain rfl := Option.some.inj hm
        exact xw_ireturn (pc := 78) C dX8_stillPeriod_78 rfl hX
    · replace hm := xif_f q hm
      refine xw_sipush (pc := 22) (v := -1001) C dX8_stillPeriod_22 xk_s_m1001 ?_
      obtain rfl := Option.some.inj hm
      exact xw_ireturn (pc := 25) C dX8_stillPeriod_25 rfl hX
set_option maxHeartbeats 4000000 in
set_option maxRecDepth 100000 in
theorem wX8_turnDisc {l : Launch} {n sl : Nat} {h : XH} {x0 : Nat} {x1 : Int32} {x2 : Int32} {o : Int32 × XH} (hm : fX8_turnDisc h x0 x1 x2 = some o) : XM l yX8_turnDisc cX8_turnDisc 4 (some .int) 4 86 [.ref x0, .int x1, .int x2] h n sl (some (.int o.1)) o.2 n sl := by
  refine xm_of pnX8 [some (.ref x0), some (.int x1), some (.int x2), none] 1 rfl (Nat.le_of_ble_eq_true rfl) ?_
  intro X hT C
  replace C : XOK X RX8 cX8_turnDisc 4 "turnDisc" (some .int) 4 86 := C
  obtain ⟨-, hN, hX⟩ := hT
  unfold fX8_turnDisc at hm
  refine xw_iload_n (pc := 0) (i := 1) (x := x1) C dX8_turnDisc_0 rfl rfl ?_
  refine xw_iconst (pc := 1) (v := 0) C dX8_turnDisc_1 xk_i_0 ?_
  refine xw_bipush (pc := 2) (v := 29) C dX8_turnDisc_2 xk_b_29 ?_
  obtain ⟨v1, q2, hm⟩ := xbind hm
  refine xw_callS1 (pc := 4) (As := [.int x1, .int (0 : Int32), .int (29 : Int32)]) (st := []) C dX8_turnDisc_4 (wX8_within q2) dd_X8_within lk_X8_44 ds_X8_within rfl (Nat.le_of_ble_eq_true rfl) (Nat.le_of_ble_eq_true rfl) (Nat.le_of_ble_eq_true rfl) ⟨Nat.le_refl _, Nat.le_refl _⟩ hN ?_
  refine xw_if_eqZ (pc := 7) (b := v1) (tgt := 23) C dX8_turnDisc_7 (by decide) (fun q => ?_) (fun q => ?_)
  · replace hm := xif_f q hm
    refine xw_sipush (pc := 23) (v := -1001) C dX8_turnDisc_23 xk_s_m1001 ?_
    obtain rfl := Option.some.inj hm
    exact xw_ireturn (pc := 26) C dX8_turnDisc_26 rfl hX
  · replace hm := xif_t q hm
    refine xw_iload_n (pc := 10) (i := 2) (x := x2) C dX8_turnDisc_10 rfl rfl ?_
    refine xw_sipush (pc := 11) (v := -1000) C dX8_turnDisc_11 xk_s_m1000 ?_
    refine xw_sipush (pc := 14) (v := 1000) C dX8_turnDisc_14 xk_s_1000 ?_
    obtain ⟨v3, q4, hm⟩ := xbind hm
    refine xw_callS1 (pc := 17) (As := [.int x2, .int (-1000 : Int32), .int (1000 : Int32)]) (st := []) C dX8_turnDisc_17 (wX8_within q4) dd_X8_within lk_X8_44 ds_X8_within rfl (Nat.le_of_ble_eq_true rfl) (Nat.le_of_ble_eq_true rfl) (Nat.le_of_ble_eq_true rfl) ⟨Nat.le_refl _, Nat.le_refl _⟩ hN ?_
    refine xw_if_neZ (pc := 20) (b := v3) (tgt := 27) C dX8_turnDisc_20 (by decide) (fun q => ?_) (fun q => ?_)
    · replace hm := xif_t q hm
      refine xw_aload_n (pc := 27) (i := 0) (x := x0) C dX8_turnDisc_27 rfl rfl ?_
      obtain ⟨v5, q6, hm⟩ := xbind hm
      refine xw_getR (pc := 28) C dX8_turnDisc_28 fl_X8_19 q6 ?_
      refine xw_aload_n (pc := 31) (i := 0) (x := x0) C dX8_turnDisc_31 rfl rfl ?_
      obtain ⟨v7, q8, hm⟩ := xbind hm
      refine xw_getR (pc := 32) C dX8_turnDisc_32 fl_X8_10 q8 ?_
      obtain ⟨_, q9, hm⟩ := xbind hm
      obtain ⟨h10, q11, hm⟩ := xbind hm
      refine xw_callV0 (pc := 35) (As := [.ref v7]) (st := []) C dX8_turnDisc_35 (wX3_remember q11) dd_X3_remember lk_X8_63 dv_X3_remember (xco_spec q9) rfl (Nat.le_of_ble_eq_true rfl) (Nat.le_of_ble_eq_true rfl) (Nat.le_of_ble_eq_true rfl) ⟨Nat.le_refl _, Nat.le_refl _⟩ hN ?_
      refine xw_aload_n (pc := 38) (i := 0) (x := x0) C dX8_turnDisc_38 rfl rfl ?_
      obtain ⟨v12, q13, hm⟩ := xbind hm
      refine xw_getR (pc := 39) C dX8_turnDisc_39 fl_X8_10 q13 ?_
      obtain ⟨v14, q15, hm⟩ := xbind hm
      refine xw_getR (pc := 42) C dX8_turnDisc_42 fl_X8_226 q15 ?_
      obtain ⟨v16, q17, hm⟩ := xbind hm
      refine xw_getI (pc := 45) C dX8_turnDisc_45 fl_X8_241 q17 ?_
      refine xw_istore_n (pc := 48) (i := 3) (x := v16) (L' := [some (.ref x0), some (.int x1), some (.int x2), some (.int v16)]) C dX8_turnDisc_48 rfl (Nat.le_of_ble_eq_true rfl) rfl ?_
      refine xw_aload_n (pc := 49) (i := 0) (x := x0) C dX8_turnDisc_49 rfl rfl ?_
      obtain ⟨v18, q19, hm⟩ := xbind hm
      refine xw_getR (pc := 50) C dX8_turnDisc_50 fl_X8_10 q19 ?_
      obtain ⟨v20, q21, hm⟩ := xbind hm
      refine xw_getR (pc := 53) C dX8_turnDisc_53 fl_X8_226 q21 ?_
      refine xw_iload_n (pc := 56) (i := 1) (x := x1) C dX8_turnDisc_56 rfl rfl ?_
      obtain ⟨h22, q23, hm⟩ := xbind hm
      refine xw_put (pc := 57) C dX8_turnDisc_57 fl_X8_242 q23 (fun _ => rfl) (fun _ => rfl) ?_
      refine xw_aload_n (pc := 60) (i := 0) (x := x0) C dX8_turnDisc_60 rfl rfl ?_
      obtain ⟨v24, q25, hm⟩ := xbind hm
      refine xw_getR (pc := 61) C dX8_turnDisc_61 fl_X8_10 q25 ?_
      obtain ⟨v26, q27, hm⟩ := xbind hm
      refine xw_getR (pc := 64) C dX8_turnDisc_64 fl_X8_226 q27 ?_
      refine xw_iload_n (pc := 67) (i := 2) (x := x2) C dX8_turnDisc_67 rfl rfl ?_
      obtain ⟨h28, q29, hm⟩ := xbind hm
      refine xw_put (pc := 68) C dX8_turnDisc_68 fl_X8_241 q29 (fun _ => rfl) (fun _ => rfl) ?_
      refine xw_iload_n (pc := 71) (i := 3) (x := v16) C dX8_turnDisc_71 rfl rfl ?_
      obtain rfl := Option.some.inj hm
      exact xw_ireturn (pc := 72) C dX8_turnDisc_72 rfl hX
    · replace hm := xif_f q hm
      refine xw_sipush (pc := 23) (v := -1001) C dX8_turnDisc_23 xk_s_m1001 ?_
      obtain rfl := Option.some.inj hm
      exact xw_ireturn (pc := 26) C dX8_turnDisc_26 rfl hX
set_option maxHeartbeats 4000000 in
set_option maxRecDepth 100000 in
theorem wX8_type {l : Launch} {n sl : Nat} {h : XH} {x0 : Nat} {x1 : Int32} {o : Int32 × XH} (hm : fX8_type h x0 x1 = some o) : XM l yX8_type cX8_type 2 (some .int) 2 43 [.ref x0, .int x1] h n sl (some (.int o.1)) o.2 n sl := by
  refine xm_of pnX8 [some (.ref x0), some (.int x1)] 0 rfl (Nat.le_of_ble_eq_true rfl) ?_
  intro X hT C
  replace C : XOK X RX8 cX8_type 2 "type" (some .int) 2 43 := C
  obtain ⟨-, hN, hX⟩ := hT
  unfold fX8_type at hm
  refine xw_iload_n (pc := 0) (i := 1) (x := x1) C dX8_type_0 rfl rfl ?_
  refine xw_bipush (pc := 1) (v := 32) C dX8_type_1 xk_b_32 ?_
  refine xw_bipush (pc := 3) (v := 126) C dX8_type_3 xk_b_126 ?_
  obtain ⟨v1, q2, hm⟩ := xbind hm
  refine xw_callS1 (pc := 5) (As := [.int x1, .int (32 : Int32), .int (126 : Int32)]) (st := []) C dX8_type_5 (wX8_within q2) dd_X8_within lk_X8_44 ds_X8_within rfl (Nat.le_of_ble_eq_true rfl) (Nat.le_of_ble_eq_true rfl) (Nat.le_of_ble_eq_true rfl) ⟨Nat.le_refl _, Nat.le_refl _⟩ hN ?_
  refine xw_if_neZ (pc := 8) (b := v1) (tgt := 15) C dX8_type_8 (by decide) (fun q => ?_) (fun q => ?_)
  · replace hm := xif_t q hm
    refine xw_aload_n (pc := 15) (i := 0) (x := x0) C dX8_type_15 rfl rfl ?_
    obtain ⟨v3, q4, hm⟩ := xbind hm
    refine xw_getR (pc := 16) C dX8_type_16 fl_X8_26 q4 ?_
    obtain ⟨v5, q6, hm⟩ := xbind hm
    refine xw_getI (pc := 19) C dX8_type_19 fl_X8_48 q6 ?_
    refine xw_bipush (pc := 22) (v := 80) C dX8_type_22 xk_b_80 ?_
    refine xw_icmp_lt (pc := 24) (tgt := 31) C dX8_type_24 (by decide) (fun q => ?_) (fun q => ?_)
    · replace hm := xif_t q hm
      refine xw_aload_n (pc := 31) (i := 0) (x := x0) C dX8_type_31 rfl rfl ?_
      obtain ⟨v7, q8, hm⟩ := xbind hm
      refine xw_getR (pc := 32) C dX8_type_32 fl_X8_26 q8 ?_
      refine xw_iload_n (pc := 35) (i := 1) (x := x1) C dX8_type_35 rfl rfl ?_
      obtain ⟨_, q9, hm⟩ := xbind hm
      obtain ⟨h10, q11, hm⟩ := xbind hm
      refine xw_callV0 (pc := 36) (As := [.int x1]) (st := []) C dX8_type_36 (wX7_append q11) dd_X7_append lk_X8_52 dv_X7_append (xco_spec q9) rfl (Nat.le_of_ble_eq_true rfl) (Nat.le_of_ble_eq_true rfl) (Nat.le_of_ble_eq_true rfl) ⟨Nat.le_refl _, Nat.le_refl _⟩ hN ?_
      refine xw_aload_n (pc := 39) (i := 0) (x := x0) C dX8_type_39 rfl rfl ?_
      obtain ⟨v12, q13, hm⟩ := xbind hm
      refine xw_getR (pc := 40) C dX8_type_40 fl_X8_26 q13 ?_
      obtain ⟨v14, q15, hm⟩ := xbind hm
      refine xw_getI (pc := 43) C dX8_type_43 fl_X8_48 q15 ?_
      obtain rfl := Option.some.inj hm
      exact xw_ireturn (pc := 46) C dX8_type_46 rfl hX
    · replace hm := xif_f q hm
      refine xw_sipush (pc := 27) (v := -1003) C dX8_type_27 xk_s_m1003 ?_
      obtain rfl := Option.some.inj hm
      exact xw_ireturn (pc := 30) C dX8_type_30 rfl hX
  · replace hm := xif_f q hm
    refine xw_sipush (pc := 11) (v := -1001) C dX8_type_11 xk_s_m1001 ?_
    obtain rfl := Option.some.inj hm
    exact xw_ireturn (pc := 14) C dX8_type_14 rfl hX
set_option maxHeartbeats 4000000 in
set_option maxRecDepth 100000 in
theorem wX8_undo {l : Launch} {n sl : Nat} {h : XH} {x0 : Nat} {o : Int32 × XH} (hm : fX8_undo h x0 = some o) : XM l yX8_undo cX8_undo 1 (some .int) 4 87 [.ref x0] h n sl (some (.int o.1)) o.2 n sl := by
  refine xm_of pnX8 [some (.ref x0)] 0 rfl (Nat.le_of_ble_eq_true rfl) ?_
  intro X hT C
  replace C : XOK X RX8 cX8_undo 1 "undo" (some .int) 4 87 := C
  obtain ⟨-, hN, hX⟩ := hT
  unfold fX8_undo at hm
  refine xw_aload_n (pc := 0) (i := 0) (x := x0) C dX8_undo_0 rfl rfl ?_
  obtain ⟨v1, q2, hm⟩ := xbind hm
  refine xw_getR (pc := 1) C dX8_undo_1 fl_X8_19 q2 ?_
  obtain ⟨v3, q4, hm⟩ := xbind hm
  refine xw_getI (pc := 4) C dX8_undo_4 fl_X8_267 q4 ?_
  refine xw_if_ne (pc := 7) (tgt := 14) C dX8_undo_7 (by decide) (fun q => ?_) (fun q => ?_)
  · replace hm := xif_f q hm
    refine xw_aload_n (pc := 14) (i := 0) (x := x0) C dX8_undo_14 rfl rfl ?_
    obtain ⟨v5, q6, hm⟩ := xbind hm
    refine xw_getR (pc := 15) C dX8_undo_15 fl_X8_19 q6 ?_
    refine xw_aload_n (pc := 18) (i := 0) (x := x0) C dX8_undo_18 rfl rfl ?_
    obtain ⟨v7, q8, hm⟩ := xbind hm
    refine xw_getR (pc := 19) C dX8_undo_19 fl_X8_10 q8 ?_
    obtain ⟨_, q9, hm⟩ := xbind hm
    obtain ⟨h10, q11, hm⟩ := xbind hm
    refine xw_callV0 (pc := 22) (As := [.ref v7]) (st := []) C dX8_undo_22 (wX3_restore q11) dd_X3_restore lk_X8_268 dv_X3_restore (xco_spec q9) rfl (Nat.le_of_ble_eq_true rfl) (Nat.le_of_ble_eq_true rfl) (Nat.le_of_ble_eq_true rfl) ⟨Nat.le_refl _, Nat.le_refl _⟩ hN ?_
    refine xw_aload_n (pc := 25) (i := 0) (x := x0) C dX8_undo_25 rfl rfl ?_
    obtain ⟨v12, q13, hm⟩ := xbind hm
    refine xw_getR (pc := 26) C dX8_undo_26 fl_X8_19 q13 ?_
    obtain ⟨v14, q15, hm⟩ := xbind hm
    refine xw_getI (pc := 29) C dX8_undo_29 fl_X8_267 q15 ?_
    obtain rfl := Option.some.inj hm
    exact xw_ireturn (pc := 32) C dX8_undo_32 rfl hX
  · replace hm := xif_t q hm
    refine xw_sipush (pc := 10) (v := -1002) C dX8_undo_10 xk_s_m1002 ?_
    obtain rfl := Option.some.inj hm
    exact xw_ireturn (pc := 13) C dX8_undo_13 rfl hX
def fX9_copies_P2 (X : XCtx) (x0 : Nat) (x1 : Int32) (x2 : Int32) (n sl : Nat) (s : (XH × Int32)) : Prop := XW X 2 [some (.ref x0), some (.int x1), some (.int x2), some (.int s.2)] [] s.1 n sl
def fX9_copies_E2 (X : XCtx) (x0 : Nat) (x1 : Int32) (x2 : Int32) (n sl : Nat) (e : XH) : Prop := XW X 36 [none, none, none, none] [] e n sl
set_option maxHeartbeats 4000000 in
set_option maxRecDepth 100000 in
theorem fX9_copies_B2_w {X : XCtx} (C : XOK X RX9 cX9_copies 4 "copies" none 0 0) {n sl : Nat} (hN : XN X n sl) {x0 : Nat} {x1 : Int32} {x2 : Int32} (s : (XH × Int32)) (o : (XH × Int32) ⊕ XH) (hm : fX9_copies_B2 x0 x1 x2 s = some o) (hc : ∀ s', o = .inl s' → fX9_copies_P2 X x0 x1 x2 n sl s') (he : ∀ e', o = .inr e' → fX9_copies_E2 X x0 x1 x2 n sl e') : fX9_copies_P2 X x0 x1 x2 n sl s := by
  obtain ⟨h, x3⟩ := s
  show XW X 2 [some (.ref x0), some (.int x1), some (.int x2), some (.int x3)] [] h n sl
  replace hm : fX9_copies_b2 x0 x1 x2 h x3 = some o := hm
  unfold fX9_copies_b2 at hm
  refine xw_iload_n (pc := 2) (i := 3) (x := x3) C dX9_copies_2 rfl rfl ?_
  refine xw_bipush (pc := 3) (v := 98) C dX9_copies_3 xk_b_98 ?_
  refine xw_icmp_ge (pc := 5) (tgt := 36) C dX9_copies_5 (by decide) (fun q => ?_) (fun q => ?_)
  · replace hm := xif_t q hm
    obtain rfl := Option.some.inj hm
    refine xw_sub (pc := 36) _ ?_ (he _ rfl)
    exact ⟨Or.inl rfl, Or.inl rfl, Or.inl rfl, Or.inl rfl, trivial⟩
  · replace hm := xif_f q hm
    refine xw_aload_n (pc := 8) (i := 0) (x := x0) C dX9_copies_8 rfl rfl ?_
    obtain ⟨v1, q2, hm⟩ := xbind hm
    refine xw_getR (pc := 9) C dX9_copies_9 fl_X9_7 q2 ?_
    refine xw_bipush (pc := 12) (v := 98) C dX9_copies_12 xk_b_98 ?_
    refine xw_iload_n (pc := 14) (i := 2) (x := x2) C dX9_copies_14 rfl rfl ?_
    refine xw_imul (pc := 15) C dX9_copies_15 ?_
    refine xw_iload_n (pc := 16) (i := 3) (x := x3) C dX9_copies_16 rfl rfl ?_
    refine xw_iadd (pc := 17) C dX9_copies_17 ?_
    refine xw_aload_n (pc := 18) (i := 0) (x := x0) C dX9_copies_18 rfl rfl ?_
    obtain ⟨v3, q4, hm⟩ := xbind hm
    refine xw_getR (pc := 19) C dX9_copies_19 fl_X9_7 q4 ?_
    refine xw_bipush (pc := 22) (v := 98) C dX9_copies_22 xk_b_98 ?_
    refine xw_iload_n (pc := 24) (i := 1) (x := x1) C dX9_copies_24 rfl rfl ?_
    refine xw_imul (pc := 25) C dX9_copies_25 ?_
    refine xw_iload_n (pc := 26) (i := 3) (x := x3) C dX9_copies_26 rfl rfl ?_
    refine xw_iadd (pc := 27) C dX9_copies_27 ?_
    obtain ⟨v5, q6, hm⟩ := xbind hm
    refine xw_iaload (pc := 28) C dX9_copies_28 q6 ?_
    obtain ⟨h7, q8, hm⟩ := xbind hm
    refine xw_iastore (pc := 29) C dX9_copies_29 q8 ?_
    refine xw_iinc (pc := 30) (i := 3) (x := x3) (v := (x3 + (1 : Int32))) (L' := [some (.ref x0), some (.int x1), some (.int x2), some (.int (x3 + (1 : Int32)))]) C dX9_copies_30 rfl (congrArg (HAdd.hAdd _) xk_i_1) (Nat.le_of_ble_eq_true rfl) rfl ?_
    refine xw_goto (pc := 33) (tgt := 2) C dX9_copies_33 (by decide) ?_
    obtain rfl := Option.some.inj hm
    refine xw_sub (pc := 2) _ ?_ (hc _ rfl)
    exact ⟨Or.inr rfl, Or.inr rfl, Or.inr rfl, Or.inr rfl, trivial⟩
set_option maxHeartbeats 4000000 in
set_option maxRecDepth 100000 in
theorem wX9_copies {l : Launch} {n sl : Nat} {h : XH} {x0 : Nat} {x1 : Int32} {x2 : Int32} {o : XH} (hm : fX9_copies h x0 x1 x2 = some o) : XM l yX9_copies cX9_copies 4 none 0 0 [.ref x0, .int x1, .int x2] h n sl none o n sl := by
  refine xm_of pnX9 [some (.ref x0), some (.int x1), some (.int x2), none] 1 rfl (Nat.le_of_ble_eq_true rfl) ?_
  intro X hT C
  replace C : XOK X RX9 cX9_copies 4 "copies" none 0 0 := C
  obtain ⟨-, hN, hX⟩ := hT
  unfold fX9_copies at hm
  refine xw_iconst (pc := 0) (v := 0) C dX9_copies_0 xk_i_0 ?_
  refine xw_istore_n (pc := 1) (i := 3) (x := (0 : Int32)) (L' := [some (.ref x0), some (.int x1), some (.int x2), some (.int (0 : Int32))]) C dX9_copies_1 rfl (Nat.le_of_ble_eq_true rfl) rfl ?_
  obtain ⟨e9, q10, hm⟩ := xbind hm
  refine xw_sub (pc := 2) [some (.ref x0), some (.int x1), some (.int x2), some (.int (0 : Int32))] ⟨Or.inr rfl, Or.inr rfl, Or.inr rfl, Or.inr rfl, trivial⟩ ?_
  refine xloop_walk (fX9_copies_B2 x0 x1 x2) (fX9_copies_P2 X x0 x1 x2 n sl) (fX9_copies_E2 X x0 x1 x2 n sl) (fun s' o' => fX9_copies_B2_w C hN s' o') 5000 (h, (0 : Int32)) e9 q10 ?_
  show XW X 36 [none, none, none, none] [] e9 n sl
  obtain rfl := Option.some.inj hm
  exact xw_return (pc := 36) C dX9_copies_36 rfl hX
set_option maxHeartbeats 4000000 in
set_option maxRecDepth 100000 in
theorem fX9_records_J41_w {X : XCtx} (C : XOK X RX9 cX9_records 2 "records" none 1 23) {n sl : Nat} (hN : XN X n sl)  {h : XH} {x0 : Nat} {o : XH} (hm : fX9_records_J41 h x0 = some o) (hX : XR X none o n sl) : XW X 41 [some (.ref x0), none] [] h n sl := by
  unfold fX9_records_J41 at hm
  refine xw_aload_n (pc := 41) (i := 0) (x := x0) C dX9_records_41 rfl rfl ?_
  refine xw_dup (pc := 42) C dX9_records_42 rfl ?_
  obtain ⟨v3, q4, hm⟩ := xbind hm
  refine xw_getI (pc := 43) C dX9_records_43 fl_X9_29 q4 ?_
  refine xw_iconst (pc := 46) (v := 1) C dX9_records_46 xk_i_1 ?_
  refine xw_iadd (pc := 47) C dX9_records_47 ?_
  obtain ⟨h5, q6, hm⟩ := xbind hm
  refine xw_put (pc := 48) C dX9_records_48 fl_X9_29 q6 (fun _ => rfl) (fun _ => rfl) ?_
  refine xw_aload_n (pc := 51) (i := 0) (x := x0) C dX9_records_51 rfl rfl ?_
  refine xw_iconst (pc := 52) (v := 0) C dX9_records_52 xk_i_0 ?_
  refine xw_aload_n (pc := 53) (i := 0) (x := x0) C dX9_records_53 rfl rfl ?_
  obtain ⟨v7, q8, hm⟩ := xbind hm
  refine xw_getI (pc := 54) C dX9_records_54 fl_X9_29 q8 ?_
  obtain ⟨_, q9, hm⟩ := xbind hm
  obtain ⟨h10, q11, hm⟩ := xbind hm
  refine xw_callV0 (pc := 57) (As := [.int (0 : Int32), .int v7]) (st := []) C dX9_records_57 (wX9_copies q11) dd_X9_copies lk_X9_33 dv_X9_copies (xco_spec q9) rfl (Nat.le_of_ble_eq_true rfl) (Nat.le_of_ble_eq_true rfl) (Nat.le_of_ble_eq_true rfl) ⟨Nat.le_refl _, Nat.le_refl _⟩ hN ?_
  obtain rfl := Option.some.inj hm
  exact xw_return (pc := 60) C dX9_records_60 rfl hX
def fX9_records_P11 (X : XCtx) (x0 : Nat) (n sl : Nat) (s : (XH × Int32)) : Prop := XW X 11 [some (.ref x0), some (.int s.2)] [] s.1 n sl
def fX9_records_E11 (X : XCtx) (x0 : Nat) (n sl : Nat) (e : XH) : Prop := XW X 31 [some (.ref x0), none] [] e n sl
set_option maxHeartbeats 4000000 in
set_option maxRecDepth 100000 in
theorem fX9_records_B11_w {X : XCtx} (C : XOK X RX9 cX9_records 2 "records" none 1 23) {n sl : Nat} (hN : XN X n sl) {x0 : Nat} (s : (XH × Int32)) (o : (XH × Int32) ⊕ XH) (hm : fX9_records_B11 x0 s = some o) (hc : ∀ s', o = .inl s' → fX9_records_P11 X x0 n sl s') (he : ∀ e', o = .inr e' → fX9_records_E11 X x0 n sl e') : fX9_records_P11 X x0 n sl s := by
  obtain ⟨h, x1⟩ := s
  show XW X 11 [some (.ref x0), some (.int x1)] [] h n sl
  replace hm : fX9_records_b11 x0 h x1 = some o := hm
  unfold fX9_records_b11 at hm
  refine xw_iload_n (pc := 11) (i := 1) (x := x1) C dX9_records_11 rfl rfl ?_
  refine xw_bipush (pc := 12) (v := 8) C dX9_records_12 xk_b_8 ?_
  refine xw_icmp_ge (pc := 14) (tgt := 31) C dX9_records_14 (by decide) (fun q => ?_) (fun q => ?_)
  · replace hm := xif_t q hm
    obtain rfl := Option.some.inj hm
    refine xw_sub (pc := 31) _ ?_ (he _ rfl)
    exact ⟨Or.inr rfl, Or.inl rfl, trivial⟩
  · replace hm := xif_f q hm
    refine xw_aload_n (pc := 17) (i := 0) (x := x0) C dX9_records_17 rfl rfl ?_
    refine xw_iload_n (pc := 18) (i := 1) (x := x1) C dX9_records_18 rfl rfl ?_
    refine xw_iconst (pc := 19) (v := 1) C dX9_records_19 xk_i_1 ?_
    refine xw_iadd (pc := 20) C dX9_records_20 ?_
    refine xw_iload_n (pc := 21) (i := 1) (x := x1) C dX9_records_21 rfl rfl ?_
    obtain ⟨_, q12, hm⟩ := xbind hm
    obtain ⟨h13, q14, hm⟩ := xbind hm
    refine xw_callV0 (pc := 22) (As := [.int (x1 + (1 : Int32)), .int x1]) (st := []) C dX9_records_22 (wX9_copies q14) dd_X9_copies lk_X9_33 dv_X9_copies (xco_spec q12) rfl (Nat.le_of_ble_eq_true rfl) (Nat.le_of_ble_eq_true rfl) (Nat.le_of_ble_eq_true rfl) ⟨Nat.le_refl _, Nat.le_refl _⟩ hN ?_
    refine xw_iinc (pc := 25) (i := 1) (x := x1) (v := (x1 + (1 : Int32))) (L' := [some (.ref x0), some (.int (x1 + (1 : Int32)))]) C dX9_records_25 rfl (congrArg (HAdd.hAdd _) xk_i_1) (Nat.le_of_ble_eq_true rfl) rfl ?_
    refine xw_goto (pc := 28) (tgt := 11) C dX9_records_28 (by decide) ?_
    obtain rfl := Option.some.inj hm
    refine xw_sub (pc := 11) _ ?_ (hc _ rfl)
    exact ⟨Or.inr rfl, Or.inr rfl, trivial⟩
set_option maxHeartbeats 4000000 in
set_option maxRecDepth 100000 in
theorem wX9_records {l : Launch} {n sl : Nat} {h : XH} {x0 : Nat} {o : XH} (hm : fX9_records h x0 = some o) : XM l yX9_records cX9_records 2 none 1 23 [.ref x0] h n sl none o n sl := by
  refine xm_of pnX9 [some (.ref x0), none] 1 rfl (Nat.le_of_ble_eq_true rfl) ?_
  intro X hT C
  replace C : XOK X RX9 cX9_records 2 "records" none 1 23 := C
  obtain ⟨-, hN, hX⟩ := hT
  unfold fX9_records at hm
  refine xw_aload_n (pc := 0) (i := 0) (x := x0) C dX9_records_0 rfl rfl ?_
  obtain ⟨v1, q2, hm⟩ := xbind hm
  refine xw_getI (pc := 1) C dX9_records_1 fl_X9_29 q2 ?_
  refine xw_bipush (pc := 4) (v := 8) C dX9_records_4 xk_b_8 ?_
  refine xw_icmp_ne (pc := 6) (tgt := 41) C dX9_records_6 (by decide) (fun q => ?_) (fun q => ?_)
  · replace hm := xif_f q hm
    exact xw_sub (pc := 41) [some (.ref x0), none] ⟨Or.inr rfl, Or.inl rfl, trivial⟩ (fX9_records_J41_w C hN hm hX)
  · replace hm := xif_t q hm
    refine xw_iconst (pc := 9) (v := 1) C dX9_records_9 xk_i_1 ?_
    refine xw_istore_n (pc := 10) (i := 1) (x := (1 : Int32)) (L' := [some (.ref x0), some (.int (1 : Int32))]) C dX9_records_10 rfl (Nat.le_of_ble_eq_true rfl) rfl ?_
    obtain ⟨e15, q16, hm⟩ := xbind hm
    refine xw_sub (pc := 11) [some (.ref x0), some (.int (1 : Int32))] ⟨Or.inr rfl, Or.inr rfl, trivial⟩ ?_
    refine xloop_walk (fX9_records_B11 x0) (fX9_records_P11 X x0 n sl) (fX9_records_E11 X x0 n sl) (fun s' o' => fX9_records_B11_w C hN s' o') 5000 (h, (1 : Int32)) e15 q16 ?_
    show XW X 31 [some (.ref x0), none] [] e15 n sl
    refine xw_aload_n (pc := 31) (i := 0) (x := x0) C dX9_records_31 rfl rfl ?_
    refine xw_dup (pc := 32) C dX9_records_32 rfl ?_
    obtain ⟨v17, q18, hm⟩ := xbind hm
    refine xw_getI (pc := 33) C dX9_records_33 fl_X9_29 q18 ?_
    refine xw_iconst (pc := 36) (v := 1) C dX9_records_36 xk_i_1 ?_
    refine xw_isub (pc := 37) C dX9_records_37 ?_
    obtain ⟨h19, q20, hm⟩ := xbind hm
    refine xw_put (pc := 38) C dX9_records_38 fl_X9_29 q20 (fun _ => rfl) (fun _ => rfl) ?_
    exact xw_sub (pc := 41) [some (.ref x0), none] ⟨Or.inr rfl, Or.inl rfl, trivial⟩ (fX9_records_J41_w C hN hm hX)
set_option maxHeartbeats 4000000 in
set_option maxRecDepth 100000 in
theorem wX9_adds {l : Launch} {n sl : Nat} {h : XH} {x0 : Nat} {x1 : Int32} {x2 : Int32} {o : Int32 × XH} (hm : fX9_adds h x0 x1 x2 = some o) : XM l yX9_adds cX9_adds 4 (some .int) 2 44 [.ref x0, .int x1, .int x2] h n sl (some (.int o.1)) o.2 n sl := by
  refine xm_of pnX9 [some (.ref x0), some (.int x1), some (.int x2), none] 1 rfl (Nat.le_of_ble_eq_true rfl) ?_
  intro X hT C
  replace C : XOK X RX9 cX9_adds 4 "adds" (some .int) 2 44 := C
  obtain ⟨-, hN, hX⟩ := hT
  unfold fX9_adds at hm
  refine xw_aload_n (pc := 0) (i := 0) (x := x0) C dX9_adds_0 rfl rfl ?_
  obtain ⟨_, q1, hm⟩ := xbind hm
  obtain ⟨h2, q3, hm⟩ := xbind hm
  refine xw_callV0 (pc := 1) (As := []) (st := []) C dX9_adds_1 (wX9_records q3) dd_X9_records lk_X9_101 dv_X9_records (xco_spec q1) rfl (Nat.le_of_ble_eq_true rfl) (Nat.le_of_ble_eq_true rfl) (Nat.le_of_ble_eq_true rfl) ⟨Nat.le_refl _, Nat.le_refl _⟩ hN ?_
  refine xw_aload_n (pc := 4) (i := 0) (x := x0) C dX9_adds_4 rfl rfl ?_
  obtain ⟨v4, q5, hm⟩ := xbind hm
  refine xw_getR (pc := 5) C dX9_adds_5 fl_X9_7 q5 ?_
  refine xw_bipush (pc := 8) (v := 76) C dX9_adds_8 xk_b_76 ?_
  obtain ⟨v6, q7, hm⟩ := xbind hm
  refine xw_iaload (pc := 10) C dX9_adds_10 q7 ?_
  refine xw_istore_n (pc := 11) (i := 3) (x := v6) (L' := [some (.ref x0), some (.int x1), some (.int x2), some (.int v6)]) C dX9_adds_11 rfl (Nat.le_of_ble_eq_true rfl) rfl ?_
  refine xw_aload_n (pc := 12) (i := 0) (x := x0) C dX9_adds_12 rfl rfl ?_
  obtain ⟨v8, q9, hm⟩ := xbind hm
  refine xw_getR (pc := 13) C dX9_adds_13 fl_X9_7 q9 ?_
  refine xw_bipush (pc := 16) (v := 77) C dX9_adds_16 xk_b_77 ?_
  refine xw_iconst (pc := 18) (v := 2) C dX9_adds_18 xk_i_2 ?_
  refine xw_iload_n (pc := 19) (i := 3) (x := v6) C dX9_adds_19 rfl rfl ?_
  refine xw_imul (pc := 20) C dX9_adds_20 ?_
  refine xw_iadd (pc := 21) C dX9_adds_21 ?_
  refine xw_iload_n (pc := 22) (i := 1) (x := x1) C dX9_adds_22 rfl rfl ?_
  obtain ⟨h10, q11, hm⟩ := xbind hm
  refine xw_iastore (pc := 23) C dX9_adds_23 q11 ?_
  refine xw_aload_n (pc := 24) (i := 0) (x := x0) C dX9_adds_24 rfl rfl ?_
  obtain ⟨v12, q13, hm⟩ := xbind hm
  refine xw_getR (pc := 25) C dX9_adds_25 fl_X9_7 q13 ?_
  refine xw_bipush (pc := 28) (v := 77) C dX9_adds_28 xk_b_77 ?_
  refine xw_iconst (pc := 30) (v := 2) C dX9_adds_30 xk_i_2 ?_
  refine xw_iload_n (pc := 31) (i := 3) (x := v6) C dX9_adds_31 rfl rfl ?_
  refine xw_imul (pc := 32) C dX9_adds_32 ?_
  refine xw_iadd (pc := 33) C dX9_adds_33 ?_
  refine xw_iconst (pc := 34) (v := 1) C dX9_adds_34 xk_i_1 ?_
  refine xw_iadd (pc := 35) C dX9_adds_35 ?_
  refine xw_iload_n (pc := 36) (i := 2) (x := x2) C dX9_adds_36 rfl rfl ?_
  obtain ⟨h14, q15, hm⟩ := xbind hm
  refine xw_iastore (pc := 37) C dX9_adds_37 q15 ?_
  refine xw_aload_n (pc := 38) (i := 0) (x := x0) C dX9_adds_38 rfl rfl ?_
  obtain ⟨v16, q17, hm⟩ := xbind hm
  refine xw_getR (pc := 39) C dX9_adds_39 fl_X9_7 q17 ?_
  refine xw_bipush (pc := 42) (v := 76) C dX9_adds_42 xk_b_76 ?_
  refine xw_dup2 (pc := 44) C dX9_adds_44 rfl rfl ?_
  obtain ⟨v18, q19, hm⟩ := xbind hm
  refine xw_iaload (pc := 45) C dX9_adds_45 q19 ?_
  refine xw_iconst (pc := 46) (v := 1) C dX9_adds_46 xk_i_1 ?_
  refine xw_iadd (pc := 47) C dX9_adds_47 ?_
  obtain ⟨h20, q21, hm⟩ := xbind hm
  refine xw_iastore (pc := 48) C dX9_adds_48 q21 ?_
  refine xw_iload_n (pc := 49) (i := 3) (x := v6) C dX9_adds_49 rfl rfl ?_
  obtain rfl := Option.some.inj hm
  exact xw_ireturn (pc := 50) C dX9_adds_50 rfl hX
set_option maxHeartbeats 4000000 in
set_option maxRecDepth 100000 in
theorem wX9_apart {l : Launch} {n sl : Nat} {h : XH} {x0 : Int32} {x1 : Int32} {o : Int32} (hm : fX9_apart x0 x1 = some o) : XM l yX9_apart cX9_apart 2 (some .int) 0 0 [.int x0, .int x1] h n sl (some (.int o)) h n sl := by
  refine xm_of pnX9 [some (.int x0), some (.int x1)] 0 rfl (Nat.le_of_ble_eq_true rfl) ?_
  intro X hT C
  replace C : XOK X RX9 cX9_apart 2 "apart" (some .int) 0 0 := C
  obtain ⟨-, hN, hX⟩ := hT
  unfold fX9_apart at hm
  refine xw_iload_n (pc := 0) (i := 0) (x := x0) C dX9_apart_0 rfl rfl ?_
  refine xw_iload_n (pc := 1) (i := 1) (x := x1) C dX9_apart_1 rfl rfl ?_
  refine xw_icmp_ge (pc := 2) (tgt := 11) C dX9_apart_2 (by decide) (fun q => ?_) (fun q => ?_)
  · replace hm := xif_t q hm
    refine xw_iload_n (pc := 11) (i := 0) (x := x0) C dX9_apart_11 rfl rfl ?_
    refine xw_iload_n (pc := 12) (i := 1) (x := x1) C dX9_apart_12 rfl rfl ?_
    refine xw_isub (pc := 13) C dX9_apart_13 ?_
    obtain rfl := Option.some.inj hm
    exact xw_ireturn (pc := 14) C dX9_apart_14 rfl hX
  · replace hm := xif_f q hm
    refine xw_iload_n (pc := 5) (i := 1) (x := x1) C dX9_apart_5 rfl rfl ?_
    refine xw_iload_n (pc := 6) (i := 0) (x := x0) C dX9_apart_6 rfl rfl ?_
    refine xw_isub (pc := 7) C dX9_apart_7 ?_
    refine xw_goto (pc := 8) (tgt := 14) C dX9_apart_8 (by decide) ?_
    obtain rfl := Option.some.inj hm
    exact xw_ireturn (pc := 14) C dX9_apart_14 rfl hX
set_option maxHeartbeats 4000000 in
set_option maxRecDepth 100000 in
theorem wX9_becomes {l : Launch} {n sl : Nat} {h : XH} {x0 : Nat} {x1 : Int32} {x2 : Int32} {o : Int32 × XH} (hm : fX9_becomes h x0 x1 x2 = some o) : XM l yX9_becomes cX9_becomes 4 (some .int) 2 44 [.ref x0, .int x1, .int x2] h n sl (some (.int o.1)) o.2 n sl := by
  refine xm_of pnX9 [some (.ref x0), some (.int x1), some (.int x2), none] 1 rfl (Nat.le_of_ble_eq_true rfl) ?_
  intro X hT C
  replace C : XOK X RX9 cX9_becomes 4 "becomes" (some .int) 2 44 := C
  obtain ⟨-, hN, hX⟩ := hT
  unfold fX9_becomes at hm
  refine xw_aload_n (pc := 0) (i := 0) (x := x0) C dX9_becomes_0 rfl rfl ?_
  obtain ⟨_, q1, hm⟩ := xbind hm
  obtain ⟨h2, q3, hm⟩ := xbind hm
  refine xw_callV0 (pc := 1) (As := []) (st := []) C dX9_becomes_1 (wX9_records q3) dd_X9_records lk_X9_101 dv_X9_records (xco_spec q1) rfl (Nat.le_of_ble_eq_true rfl) (Nat.le_of_ble_eq_true rfl) (Nat.le_of_ble_eq_true rfl) ⟨Nat.le_refl _, Nat.le_refl _⟩ hN ?_
  refine xw_aload_n (pc := 4) (i := 0) (x := x0) C dX9_becomes_4 rfl rfl ?_
  obtain ⟨v4, q5, hm⟩ := xbind hm
  refine xw_getR (pc := 5) C dX9_becomes_5 fl_X9_7 q5 ?_
  refine xw_iload_n (pc := 8) (i := 1) (x := x1) C dX9_becomes_8 rfl rfl ?_
  obtain ⟨v6, q7, hm⟩ := xbind hm
  refine xw_iaload (pc := 9) C dX9_becomes_9 q7 ?_
  refine xw_istore_n (pc := 10) (i := 3) (x := v6) (L' := [some (.ref x0), some (.int x1), some (.int x2), some (.int v6)]) C dX9_becomes_10 rfl (Nat.le_of_ble_eq_true rfl) rfl ?_
  refine xw_aload_n (pc := 11) (i := 0) (x := x0) C dX9_becomes_11 rfl rfl ?_
  obtain ⟨v8, q9, hm⟩ := xbind hm
  refine xw_getR (pc := 12) C dX9_becomes_12 fl_X9_7 q9 ?_
  refine xw_iload_n (pc := 15) (i := 1) (x := x1) C dX9_becomes_15 rfl rfl ?_
  refine xw_iload_n (pc := 16) (i := 2) (x := x2) C dX9_becomes_16 rfl rfl ?_
  obtain ⟨h10, q11, hm⟩ := xbind hm
  refine xw_iastore (pc := 17) C dX9_becomes_17 q11 ?_
  refine xw_iload_n (pc := 18) (i := 3) (x := v6) C dX9_becomes_18 rfl rfl ?_
  obtain rfl := Option.some.inj hm
  exact xw_ireturn (pc := 19) C dX9_becomes_19 rfl hX
set_option maxHeartbeats 4000000 in
set_option maxRecDepth 100000 in
theorem wX9_cells {l : Launch} {n sl : Nat} {h : XH} {x0 : Nat} {o : Int32} (hm : fX9_cells h x0 = some o) : XM l yX9_cells cX9_cells 1 (some .int) 0 0 [.ref x0] h n sl (some (.int o)) h n sl := by
  refine xm_of pnX9 [some (.ref x0)] 0 rfl (Nat.le_of_ble_eq_true rfl) ?_
  intro X hT C
  replace C : XOK X RX9 cX9_cells 1 "cells" (some .int) 0 0 := C
  obtain ⟨-, hN, hX⟩ := hT
  unfold fX9_cells at hm
  refine xw_aload_n (pc := 0) (i := 0) (x := x0) C dX9_cells_0 rfl rfl ?_
  obtain ⟨v1, q2, hm⟩ := xbind hm
  refine xw_getR (pc := 1) C dX9_cells_1 fl_X9_7 q2 ?_
  refine xw_iconst (pc := 4) (v := 0) C dX9_cells_4 xk_i_0 ?_
  obtain ⟨v3, q4, hm⟩ := xbind hm
  refine xw_iaload (pc := 5) C dX9_cells_5 q4 ?_
  obtain rfl := Option.some.inj hm
  exact xw_ireturn (pc := 6) C dX9_cells_6 rfl hX
def fX9_measure_P4 (X : XCtx) (h : XH) (x0 : Nat) (n sl : Nat) (s : (Int32 × Bool)) : Prop := XW X 4 [some (.ref x0), some (.int s.1), some (.int (xbi s.2)), none] [] h n sl
def fX9_measure_E4 (X : XCtx) (h : XH) (x0 : Nat) (n sl : Nat) (e : Int32) : Prop := XW X 68 [none, some (.int e), none, none] [] h n sl
def fX9_measure_P15 (X : XCtx) (h : XH) (x0 : Nat) (x1 : Int32) (n sl : Nat) (s : (Bool × Int32)) : Prop := XW X 15 [some (.ref x0), some (.int x1), some (.int (xbi s.1)), some (.int s.2)] [] h n sl
def fX9_measure_E15 (X : XCtx) (h : XH) (x0 : Nat) (x1 : Int32) (n sl : Nat) (e : Bool) : Prop := XW X 65 [some (.ref x0), some (.int x1), some (.int (xbi e)), none] [] h n sl
set_option maxHeartbeats 4000000 in
set_option maxRecDepth 100000 in
theorem fX9_measure_J57_w {X : XCtx} (C : XOK X RX9 cX9_measure 4 "measure" (some .int) 1 20) {n sl : Nat} (hN : XN X n sl)  {h : XH} {x0 : Nat} {x1 : Int32} {x3 : Int32} {o : (Bool × Int32) ⊕ Bool} (hm : fX9_measure_J57 h x0 x1 x3 = some o) (hc : ∀ s', o = .inl s' → fX9_measure_P15 X h x0 x1 n sl s') (he : ∀ e', o = .inr e' → fX9_measure_E15 X h x0 x1 n sl e') : XW X 57 [some (.ref x0), some (.int x1), none, some (.int x3)] [] h n sl := by
  unfold fX9_measure_J57 at hm
  refine xw_iconst (pc := 57) (v := 0) C dX9_measure_57 xk_i_0 ?_
  refine xw_istore_n (pc := 58) (i := 2) (x := (0 : Int32)) (L' := [some (.ref x0), some (.int x1), some (.int (0 : Int32)), some (.int x3)]) C dX9_measure_58 rfl (Nat.le_of_ble_eq_true rfl) rfl ?_
  refine xw_iinc (pc := 59) (i := 3) (x := x3) (v := (x3 + (1 : Int32))) (L' := [some (.ref x0), some (.int x1), some (.int (0 : Int32)), some (.int (x3 + (1 : Int32)))]) C dX9_measure_59 rfl (congrArg (HAdd.hAdd _) xk_i_1) (Nat.le_of_ble_eq_true rfl) rfl ?_
  refine xw_goto (pc := 62) (tgt := 15) C dX9_measure_62 (by decide) ?_
  obtain rfl := Option.some.inj hm
  refine xw_sub (pc := 15) _ ?_ (hc _ rfl)
  exact ⟨Or.inr rfl, Or.inr rfl, Or.inr rfl, Or.inr rfl, trivial⟩
set_option maxHeartbeats 4000000 in
set_option maxRecDepth 100000 in
theorem fX9_measure_B15_w {X : XCtx} (C : XOK X RX9 cX9_measure 4 "measure" (some .int) 1 20) {n sl : Nat} (hN : XN X n sl) {h : XH} {x0 : Nat} {x1 : Int32} (s : (Bool × Int32)) (o : (Bool × Int32) ⊕ Bool) (hm : fX9_measure_B15 h x0 x1 s = some o) (hc : ∀ s', o = .inl s' → fX9_measure_P15 X h x0 x1 n sl s') (he : ∀ e', o = .inr e' → fX9_measure_E15 X h x0 x1 n sl e') : fX9_measure_P15 X h x0 x1 n sl s := by
  obtain ⟨x2, x3⟩ := s
  show XW X 15 [some (.ref x0), some (.int x1), some (.int (xbi x2)), some (.int x3)] [] h n sl
  replace hm : fX9_measure_b15 h x0 x1 x2 x3 = some o := hm
  unfold fX9_measure_b15 at hm
  refine xw_iload_n (pc := 15) (i := 3) (x := x3) C dX9_measure_15 rfl rfl ?_
  refine xw_aload_n (pc := 16) (i := 0) (x := x0) C dX9_measure_16 rfl rfl ?_
  obtain ⟨_, q1, hm⟩ := xbind hm
  obtain ⟨v2, q3, hm⟩ := xbind hm
  refine xw_callV1 (pc := 17) (As := []) (st := [.int x3]) C dX9_measure_17 (wX9_cells q3) dd_X9_cells lk_X9_37 dv_X9_cells (xco_spec q1) rfl (Nat.le_of_ble_eq_true rfl) (Nat.le_of_ble_eq_true rfl) (Nat.le_of_ble_eq_true rfl) ⟨Nat.le_refl _, Nat.le_refl _⟩ hN ?_
  refine xw_icmp_ge (pc := 20) (tgt := 65) C dX9_measure_20 (by decide) (fun q => ?_) (fun q => ?_)
  · replace hm := xif_t q hm
    obtain rfl := Option.some.inj hm
    refine xw_sub (pc := 65) _ ?_ (he _ rfl)
    exact ⟨Or.inr rfl, Or.inr rfl, Or.inr rfl, Or.inl rfl, trivial⟩
  · replace hm := xif_f q hm
    refine xw_iload_n (pc := 23) (i := 2) (x := (xbi x2)) C dX9_measure_23 rfl rfl ?_
    refine xw_if_eqZ (pc := 24) (b := x2) (tgt := 57) C dX9_measure_24 (by decide) (fun q => ?_) (fun q => ?_)
    · replace hm := xif_f q hm
      exact xw_sub (pc := 57) [some (.ref x0), some (.int x1), none, some (.int x3)] ⟨Or.inr rfl, Or.inr rfl, Or.inl rfl, Or.inr rfl, trivial⟩ (fX9_measure_J57_w C hN hm hc he)
    · replace hm := xif_t q hm
      refine xw_aload_n (pc := 27) (i := 0) (x := x0) C dX9_measure_27 rfl rfl ?_
      obtain ⟨v4, q5, hm⟩ := xbind hm
      refine xw_getR (pc := 28) C dX9_measure_28 fl_X9_7 q5 ?_
      refine xw_iconst (pc := 31) (v := 1) C dX9_measure_31 xk_i_1 ?_
      refine xw_iload_n (pc := 32) (i := 3) (x := x3) C dX9_measure_32 rfl rfl ?_
      refine xw_iadd (pc := 33) C dX9_measure_33 ?_
      obtain ⟨v6, q7, hm⟩ := xbind hm
      refine xw_iaload (pc := 34) C dX9_measure_34 q7 ?_
      refine xw_aload_n (pc := 35) (i := 0) (x := x0) C dX9_measure_35 rfl rfl ?_
      obtain ⟨v8, q9, hm⟩ := xbind hm
      refine xw_getR (pc := 36) C dX9_measure_36 fl_X9_7 q9 ?_
      refine xw_iconst (pc := 39) (v := 1) C dX9_measure_39 xk_i_1 ?_
      refine xw_iload_n (pc := 40) (i := 3) (x := x3) C dX9_measure_40 rfl rfl ?_
      refine xw_iload_n (pc := 41) (i := 1) (x := x1) C dX9_measure_41 rfl rfl ?_
      refine xw_iadd (pc := 42) C dX9_measure_42 ?_
      refine xw_aload_n (pc := 43) (i := 0) (x := x0) C dX9_measure_43 rfl rfl ?_
      obtain ⟨_, q10, hm⟩ := xbind hm
      obtain ⟨v11, q12, hm⟩ := xbind hm
      refine xw_callV1 (pc := 44) (As := []) (st := [.int (x3 + x1), .int (1 : Int32), .ref v8, .int v6]) C dX9_measure_44 (wX9_cells q12) dd_X9_cells lk_X9_37 dv_X9_cells (xco_spec q10) rfl (Nat.le_of_ble_eq_true rfl) (Nat.le_of_ble_eq_true rfl) (Nat.le_of_ble_eq_true rfl) ⟨Nat.le_refl _, Nat.le_refl _⟩ hN ?_
      obtain ⟨q13, hm⟩ := xif_n hm
      refine xw_irem (pc := 47) C dX9_measure_47 q13 ?_
      refine xw_iadd (pc := 48) C dX9_measure_48 ?_
      obtain ⟨v14, q15, hm⟩ := xbind hm
      refine xw_iaload (pc := 49) C dX9_measure_49 q15 ?_
      refine xw_icmp_ne (pc := 50) (tgt := 57) C dX9_measure_50 (by decide) (fun q => ?_) (fun q => ?_)
      · replace hm := xif_f q hm
        exact xw_sub (pc := 57) [some (.ref x0), some (.int x1), none, some (.int x3)] ⟨Or.inr rfl, Or.inr rfl, Or.inl rfl, Or.inr rfl, trivial⟩ (fX9_measure_J57_w C hN hm hc he)
      · replace hm := xif_t q hm
        refine xw_iconst (pc := 53) (v := 1) C dX9_measure_53 xk_i_1 ?_
        refine xw_goto (pc := 54) (tgt := 58) C dX9_measure_54 (by decide) ?_
        refine xw_istore_n (pc := 58) (i := 2) (x := (1 : Int32)) (L' := [some (.ref x0), some (.int x1), some (.int (1 : Int32)), some (.int x3)]) C dX9_measure_58 rfl (Nat.le_of_ble_eq_true rfl) rfl ?_
        refine xw_iinc (pc := 59) (i := 3) (x := x3) (v := (x3 + (1 : Int32))) (L' := [some (.ref x0), some (.int x1), some (.int (1 : Int32)), some (.int (x3 + (1 : Int32)))]) C dX9_measure_59 rfl (congrArg (HAdd.hAdd _) xk_i_1) (Nat.le_of_ble_eq_true rfl) rfl ?_
        refine xw_goto (pc := 62) (tgt := 15) C dX9_measure_62 (by decide) ?_
        obtain rfl := Option.some.inj hm
        refine xw_sub (pc := 15) _ ?_ (hc _ rfl)
        exact ⟨Or.inr rfl, Or.inr rfl, Or.inr rfl, Or.inr rfl, trivial⟩
set_option maxHeartbeats 4000000 in
set_option maxRecDepth 100000 in
theorem fX9_measure_B4_w {X : XCtx} (C : XOK X RX9 cX9_measure 4 "measure" (some .int) 1 20) {n sl : Nat} (hN : XN X n sl) {h : XH} {x0 : Nat} (s : (Int32 × Bool)) (o : (Int32 × Bool) ⊕ Int32) (hm : fX9_measure_B4 h x0 s = some o) (hc : ∀ s', o = .inl s' → fX9_measure_P4 X h x0 n sl s') (he : ∀ e', o = .inr e' → fX9_measure_E4 X h x0 n sl e') : fX9_measure_P4 X h x0 n sl s := by
  obtain ⟨x1, x2⟩ := s
  show XW X 4 [some (.ref x0), some (.int x1), some (.int (xbi x2)), none] [] h n sl
  replace hm : fX9_measure_b4 h x0 x1 x2 = some o := hm
  unfold fX9_measure_b4 at hm
  refine xw_iload_n (pc := 4) (i := 2) (x := (xbi x2)) C dX9_measure_4 rfl rfl ?_
  refine xw_if_neZ (pc := 5) (b := x2) (tgt := 68) C dX9_measure_5 (by decide) (fun q => ?_) (fun q => ?_)
  · replace hm := xif_t q hm
    obtain rfl := Option.some.inj hm
    refine xw_sub (pc := 68) _ ?_ (he _ rfl)
    exact ⟨Or.inl rfl, Or.inr rfl, Or.inl rfl, Or.inl rfl, trivial⟩
  · replace hm := xif_f q hm
    refine xw_iinc (pc := 8) (i := 1) (x := x1) (v := (x1 + (1 : Int32))) (L' := [some (.ref x0), some (.int (x1 + (1 : Int32))), some (.int (xbi x2)), none]) C dX9_measure_8 rfl (congrArg (HAdd.hAdd _) xk_i_1) (Nat.le_of_ble_eq_true rfl) rfl ?_
    refine xw_iconst (pc := 11) (v := 1) C dX9_measure_11 xk_i_1 ?_
    refine xw_istore_n (pc := 12) (i := 2) (x := (1 : Int32)) (L' := [some (.ref x0), some (.int (x1 + (1 : Int32))), some (.int (1 : Int32)), none]) C dX9_measure_12 rfl (Nat.le_of_ble_eq_true rfl) rfl ?_
    refine xw_iconst (pc := 13) (v := 0) C dX9_measure_13 xk_i_0 ?_
    refine xw_istore_n (pc := 14) (i := 3) (x := (0 : Int32)) (L' := [some (.ref x0), some (.int (x1 + (1 : Int32))), some (.int (1 : Int32)), some (.int (0 : Int32))]) C dX9_measure_14 rfl (Nat.le_of_ble_eq_true rfl) rfl ?_
    obtain ⟨e16, q17, hm⟩ := xbind hm
    refine xw_sub (pc := 15) [some (.ref x0), some (.int (x1 + (1 : Int32))), some (.int (xbi true)), some (.int (0 : Int32))] ⟨Or.inr rfl, Or.inr rfl, Or.inr rfl, Or.inr rfl, trivial⟩ ?_
    refine xloop_walk (fX9_measure_B15 h x0 (x1 + (1 : Int32))) (fX9_measure_P15 X h x0 (x1 + (1 : Int32)) n sl) (fX9_measure_E15 X h x0 (x1 + (1 : Int32)) n sl) (fun s' o' => fX9_measure_B15_w C hN s' o') 5000 (true, (0 : Int32)) e16 q17 ?_
    show XW X 65 [some (.ref x0), some (.int (x1 + (1 : Int32))), some (.int (xbi e16)), none] [] h n sl
    refine xw_goto (pc := 65) (tgt := 4) C dX9_measure_65 (by decide) ?_
    obtain rfl := Option.some.inj hm
    refine xw_sub (pc := 4) _ ?_ (hc _ rfl)
    exact ⟨Or.inr rfl, Or.inr rfl, Or.inr rfl, Or.inl rfl, trivial⟩
set_option maxHeartbeats 4000000 in
set_option maxRecDepth 100000 in
theorem wX9_measure {l : Launch} {n sl : Nat} {h : XH} {x0 : Nat} {o : Int32} (hm : fX9_measure h x0 = some o) : XM l yX9_measure cX9_measure 4 (some .int) 1 20 [.ref x0] h n sl (some (.int o)) h n sl := by
  refine xm_of pnX9 [some (.ref x0), none, none, none] 3 rfl (Nat.le_of_ble_eq_true rfl) ?_
  intro X hT C
  replace C : XOK X RX9 cX9_measure 4 "measure" (some .int) 1 20 := C
  obtain ⟨-, hN, hX⟩ := hT
  unfold fX9_measure at hm
  refine xw_iconst (pc := 0) (v := 0) C dX9_measure_0 xk_i_0 ?_
  refine xw_istore_n (pc := 1) (i := 1) (x := (0 : Int32)) (L' := [some (.ref x0), some (.int (0 : Int32)), none, none]) C dX9_measure_1 rfl (Nat.le_of_ble_eq_true rfl) rfl ?_
  refine xw_iconst (pc := 2) (v := 0) C dX9_measure_2 xk_i_0 ?_
  refine xw_istore_n (pc := 3) (i := 2) (x := (0 : Int32)) (L' := [some (.ref x0), some (.int (0 : Int32)), some (.int (0 : Int32)), none]) C dX9_measure_3 rfl (Nat.le_of_ble_eq_true rfl) rfl ?_
  obtain ⟨e18, q19, hm⟩ := xbind hm
  refine xw_sub (pc := 4) [some (.ref x0), some (.int (0 : Int32)), some (.int (xbi false)), none] ⟨Or.inr rfl, Or.inr rfl, Or.inr rfl, Or.inl rfl, trivial⟩ ?_
  refine xloop_walk (fX9_measure_B4 h x0) (fX9_measure_P4 X h x0 n sl) (fX9_measure_E4 X h x0 n sl) (fun s' o' => fX9_measure_B4_w C hN s' o') 5000 ((0 : Int32), false) e18 q19 ?_
  show XW X 68 [none, some (.int e18), none, none] [] h n sl
  refine xw_iload_n (pc := 68) (i := 1) (x := e18) C dX9_measure_68 rfl rfl ?_
  obtain rfl := Option.some.inj hm
  exact xw_ireturn (pc := 69) C dX9_measure_69 rfl hX
def fX9_finds_P19 (X : XCtx) (x0 : Nat) (x1 : Int32) (x2 : Int32) (n sl : Nat) (s : (XH × Int32)) : Prop := XW X 19 [some (.ref x0), some (.int x1), some (.int x2), some (.int s.2), none, none] [] s.1 n sl
def fX9_finds_E19 (X : XCtx) (x0 : Nat) (x1 : Int32) (x2 : Int32) (n sl : Nat) (e : XH) : Prop := XW X 137 [none, none, none, none, none, none] [] e n sl
def fX9_finds_P36 (X : XCtx) (h : XH) (x0 : Nat) (x1 : Int32) (x2 : Int32) (x3 : Int32) (n sl : Nat) (s : (Bool × Int32)) : Prop := XW X 36 [some (.ref x0), some (.int x1), some (.int x2), some (.int x3), some (.int (xbi s.1)), some (.int s.2)] [] h n sl
def fX9_finds_E36 (X : XCtx) (h : XH) (x0 : Nat) (x1 : Int32) (x2 : Int32) (x3 : Int32) (n sl : Nat) (e : Bool) : Prop := XW X 106 [some (.ref x0), some (.int x1), some (.int x2), some (.int x3), some (.int (xbi e)), none] [] h n sl
set_option maxHeartbeats 4000000 in
set_option maxRecDepth 100000 in
theorem fX9_finds_J93_w {X : XCtx} (C : XOK X RX9 cX9_finds 6 "finds" none 2 43) {n sl : Nat} (hN : XN X n sl)  {h : XH} {x0 : Nat} {x1 : Int32} {x2 : Int32} {x3 : Int32} {x5 : Int32} {o : (Bool × Int32) ⊕ Bool} (hm : fX9_finds_J93 h x0 x1 x2 x3 x5 = some o) (hc : ∀ s', o = .inl s' → fX9_finds_P36 X h x0 x1 x2 x3 n sl s') (he : ∀ e', o = .inr e' → fX9_finds_E36 X h x0 x1 x2 x3 n sl e') : XW X 93 [some (.ref x0), some (.int x1), some (.int x2), some (.int x3), none, some (.int x5)] [] h n sl := by
  unfold fX9_finds_J93 at hm
  refine xw_iconst (pc := 93) (v := 1) C dX9_finds_93 xk_i_1 ?_
  refine xw_goto (pc := 94) (tgt := 98) C dX9_finds_94 (by decide) ?_
  refine xw_istore (pc := 98) (i := 4) (x := (1 : Int32)) (L' := [some (.ref x0), some (.int x1), some (.int x2), some (.int x3), some (.int (1 : Int32)), some (.int x5)]) C dX9_finds_98 (Nat.le_of_ble_eq_true rfl) rfl ?_
  refine xw_iinc (pc := 100) (i := 5) (x := x5) (v := (x5 + (1 : Int32))) (L' := [some (.ref x0), some (.int x1), some (.int x2), some (.int x3), some (.int (1 : Int32)), some (.int (x5 + (1 : Int32)))]) C dX9_finds_100 rfl (congrArg (HAdd.hAdd _) xk_i_1) (Nat.le_of_ble_eq_true rfl) rfl ?_
  refine xw_goto (pc := 103) (tgt := 36) C dX9_finds_103 (by decide) ?_
  obtain rfl := Option.some.inj hm
  refine xw_sub (pc := 36) _ ?_ (hc _ rfl)
  exact ⟨Or.inr rfl, Or.inr rfl, Or.inr rfl, Or.inr rfl, Or.inr rfl, Or.inr rfl, trivial⟩
set_option maxHeartbeats 4000000 in
set_option maxRecDepth 100000 in
theorem fX9_finds_B36_w {X : XCtx} (C : XOK X RX9 cX9_finds 6 "finds" none 2 43) {n sl : Nat} (hN : XN X n sl) {h : XH} {x0 : Nat} {x1 : Int32} {x2 : Int32} {x3 : Int32} (s : (Bool × Int32)) (o : (Bool × Int32) ⊕ Bool) (hm : fX9_finds_B36 h x0 x1 x2 x3 s = some o) (hc : ∀ s', o = .inl s' → fX9_finds_P36 X h x0 x1 x2 x3 n sl s') (he : ∀ e', o = .inr e' → fX9_finds_E36 X h x0 x1 x2 x3 n sl e') : fX9_finds_P36 X h x0 x1 x2 x3 n sl s := by
  obtain ⟨x4, x5⟩ := s
  show XW X 36 [some (.ref x0), some (.int x1), some (.int x2), some (.int x3), some (.int (xbi x4)), some (.int x5)] [] h n sl
  replace hm : fX9_finds_b36 h x0 x1 x2 x3 x4 x5 = some o := hm
  unfold fX9_finds_b36 at hm
  refine xw_iload (pc := 36) (i := 5) (x := x5) C dX9_finds_36 rfl ?_
  refine xw_aload_n (pc := 38) (i := 0) (x := x0) C dX9_finds_38 rfl rfl ?_
  obtain ⟨v14, q15, hm⟩ := xbind hm
  refine xw_getR (pc := 39) C dX9_finds_39 fl_X9_7 q15 ?_
  refine xw_bipush (pc := 42) (v := 76) C dX9_finds_42 xk_b_76 ?_
  obtain ⟨v16, q17, hm⟩ := xbind hm
  refine xw_iaload (pc := 44) C dX9_finds_44 q17 ?_
  refine xw_icmp_ge (pc := 45) (tgt := 106) C dX9_finds_45 (by decide) (fun q => ?_) (fun q => ?_)
  · replace hm := xif_t q hm
    obtain rfl := Option.some.inj hm
    refine xw_sub (pc := 106) _ ?_ (he _ rfl)
    exact ⟨Or.inr rfl, Or.inr rfl, Or.inr rfl, Or.inr rfl, Or.inr rfl, Or.inl rfl, trivial⟩
  · replace hm := xif_f q hm
    refine xw_iload (pc := 48) (i := 4) (x := (xbi x4)) C dX9_finds_48 rfl ?_
    refine xw_if_eqZ (pc := 50) (b := x4) (tgt := 106) C dX9_finds_50 (by decide) (fun q => ?_) (fun q => ?_)
    · replace hm := xif_f q hm
      obtain rfl := Option.some.inj hm
      refine xw_sub (pc := 106) _ ?_ (he _ rfl)
      exact ⟨Or.inr rfl, Or.inr rfl, Or.inr rfl, Or.inr rfl, Or.inr rfl, Or.inl rfl, trivial⟩
    · replace hm := xif_t q hm
      refine xw_iload (pc := 53) (i := 5) (x := x5) C dX9_finds_53 rfl ?_
      refine xw_iload_n (pc := 55) (i := 1) (x := x1) C dX9_finds_55 rfl rfl ?_
      refine xw_icmp_eq (pc := 56) (tgt := 93) C dX9_finds_56 (by decide) (fun q => ?_) (fun q => ?_)
      · replace hm := xif_t q hm
        exact xw_sub (pc := 93) [some (.ref x0), some (.int x1), some (.int x2), some (.int x3), none, some (.int x5)] ⟨Or.inr rfl, Or.inr rfl, Or.inr rfl, Or.inr rfl, Or.inl rfl, Or.inr rfl, trivial⟩ (fX9_finds_J93_w C hN hm hc he)
      · replace hm := xif_f q hm
        refine xw_iload_n (pc := 59) (i := 3) (x := x3) C dX9_finds_59 rfl rfl ?_
        refine xw_aload_n (pc := 60) (i := 0) (x := x0) C dX9_finds_60 rfl rfl ?_
        obtain ⟨v18, q19, hm⟩ := xbind hm
        refine xw_getR (pc := 61) C dX9_finds_61 fl_X9_7 q19 ?_
        refine xw_bipush (pc := 64) (v := 77) C dX9_finds_64 xk_b_77 ?_
        refine xw_iconst (pc := 66) (v := 2) C dX9_finds_66 xk_i_2 ?_
        refine xw_iload (pc := 67) (i := 5) (x := x5) C dX9_finds_67 rfl ?_
        refine xw_imul (pc := 69) C dX9_finds_69 ?_
        refine xw_iadd (pc := 70) C dX9_finds_70 ?_
        obtain ⟨v20, q21, hm⟩ := xbind hm
        refine xw_iaload (pc := 71) C dX9_finds_71 q21 ?_
        refine xw_imul (pc := 72) C dX9_finds_72 ?_
        refine xw_aload_n (pc := 73) (i := 0) (x := x0) C dX9_finds_73 rfl rfl ?_
        obtain ⟨v22, q23, hm⟩ := xbind hm
        refine xw_getR (pc := 74) C dX9_finds_74 fl_X9_7 q23 ?_
        refine xw_bipush (pc := 77) (v := 77) C dX9_finds_77 xk_b_77 ?_
        refine xw_iconst (pc := 79) (v := 2) C dX9_finds_79 xk_i_2 ?_
        refine xw_iload (pc := 80) (i := 5) (x := x5) C dX9_finds_80 rfl ?_
        refine xw_imul (pc := 82) C dX9_finds_82 ?_
        refine xw_iadd (pc := 83) C dX9_finds_83 ?_
        refine xw_iconst (pc := 84) (v := 1) C dX9_finds_84 xk_i_1 ?_
        refine xw_iadd (pc := 85) C dX9_finds_85 ?_
        obtain ⟨v24, q25, hm⟩ := xbind hm
        refine xw_iaload (pc := 86) C dX9_finds_86 q25 ?_
        refine xw_isub (pc := 87) C dX9_finds_87 ?_
        refine xw_iload_n (pc := 88) (i := 2) (x := x2) C dX9_finds_88 rfl rfl ?_
        obtain ⟨q26, hm⟩ := xif_n hm
        refine xw_irem (pc := 89) C dX9_finds_89 q26 ?_
        refine xw_if_ne (pc := 90) (tgt := 97) C dX9_finds_90 (by decide) (fun q => ?_) (fun q => ?_)
        · replace hm := xif_f q hm
          refine xw_iconst (pc := 97) (v := 0) C dX9_finds_97 xk_i_0 ?_
          refine xw_istore (pc := 98) (i := 4) (x := (0 : Int32)) (L' := [some (.ref x0), some (.int x1), some (.int x2), some (.int x3), some (.int (0 : Int32)), some (.int x5)]) C dX9_finds_98 (Nat.le_of_ble_eq_true rfl) rfl ?_
          refine xw_iinc (pc := 100) (i := 5) (x := x5) (v := (x5 + (1 : Int32))) (L' := [some (.ref x0), some (.int x1), some (.int x2), some (.int x3), some (.int (0 : Int32)), some (.int (x5 + (1 : Int32)))]) C dX9_finds_100 rfl (congrArg (HAdd.hAdd _) xk_i_1) (Nat.le_of_ble_eq_true rfl) rfl ?_
          refine xw_goto (pc := 103) (tgt := 36) C dX9_finds_103 (by decide) ?_
          obtain rfl := Option.some.inj hm
          refine xw_sub (pc := 36) _ ?_ (hc _ rfl)
          exact ⟨Or.inr rfl, Or.inr rfl, Or.inr rfl, Or.inr rfl, Or.inr rfl, Or.inr rfl, trivial⟩
        · replace hm := xif_t q hm
          exact xw_sub (pc := 93) [some (.ref x0), some (.int x1), some (.int x2), some (.int x3), none, some (.int x5)] ⟨Or.inr rfl, Or.inr rfl, Or.inr rfl, Or.inr rfl, Or.inl rfl, Or.inr rfl, trivial⟩ (fX9_finds_J93_w C hN hm hc he)
set_option maxHeartbeats 4000000 in
set_option maxRecDepth 100000 in
theorem fX9_finds_B19_w {X : XCtx} (C : XOK X RX9 cX9_finds 6 "finds" none 2 43) {n sl : Nat} (hN : XN X n sl) {x0 : Nat} {x1 : Int32} {x2 : Int32} (s : (XH × Int32)) (o : (XH × Int32) ⊕ XH) (hm : fX9_finds_B19 x0 x1 x2 s = some o) (hc : ∀ s', o = .inl s' → fX9_finds_P19 X x0 x1 x2 n sl s') (he : ∀ e', o = .inr e' → fX9_finds_E19 X x0 x1 x2 n sl e') : fX9_finds_P19 X x0 x1 x2 n sl s := by
  obtain ⟨h, x3⟩ := s
  show XW X 19 [some (.ref x0), some (.int x1), some (.int x2), some (.int x3), none, none] [] h n sl
  replace hm : fX9_finds_b19 x0 x1 x2 h x3 = some o := hm
  unfold fX9_finds_b19 at hm
  refine xw_iload_n (pc := 19) (i := 3) (x := x3) C dX9_finds_19 rfl rfl ?_
  refine xw_aload_n (pc := 20) (i := 0) (x := x0) C dX9_finds_20 rfl rfl ?_
  obtain ⟨v10, q11, hm⟩ := xbind hm
  refine xw_getR (pc := 21) C dX9_finds_21 fl_X9_7 q11 ?_
  refine xw_bipush (pc := 24) (v := 93) C dX9_finds_24 xk_b_93 ?_
  obtain ⟨v12, q13, hm⟩ := xbind hm
  refine xw_iaload (pc := 26) C dX9_finds_26 q13 ?_
  refine xw_icmp_gt (pc := 27) (tgt := 137) C dX9_finds_27 (by decide) (fun q => ?_) (fun q => ?_)
  · replace hm := xif_t q hm
    obtain rfl := Option.some.inj hm
    refine xw_sub (pc := 137) _ ?_ (he _ rfl)
    exact ⟨Or.inl rfl, Or.inl rfl, Or.inl rfl, Or.inl rfl, Or.inl rfl, Or.inl rfl, trivial⟩
  · replace hm := xif_f q hm
    refine xw_iconst (pc := 30) (v := 1) C dX9_finds_30 xk_i_1 ?_
    refine xw_istore (pc := 31) (i := 4) (x := (1 : Int32)) (L' := [some (.ref x0), some (.int x1), some (.int x2), some (.int x3), some (.int (1 : Int32)), none]) C dX9_finds_31 (Nat.le_of_ble_eq_true rfl) rfl ?_
    refine xw_iconst (pc := 33) (v := 0) C dX9_finds_33 xk_i_0 ?_
    refine xw_istore (pc := 34) (i := 5) (x := (0 : Int32)) (L' := [some (.ref x0), some (.int x1), some (.int x2), some (.int x3), some (.int (1 : Int32)), some (.int (0 : Int32))]) C dX9_finds_34 (Nat.le_of_ble_eq_true rfl) rfl ?_
    obtain ⟨e27, q28, hm⟩ := xbind hm
    refine xw_sub (pc := 36) [some (.ref x0), some (.int x1), some (.int x2), some (.int x3), some (.int (xbi true)), some (.int (0 : Int32))] ⟨Or.inr rfl, Or.inr rfl, Or.inr rfl, Or.inr rfl, Or.inr rfl, Or.inr rfl, trivial⟩ ?_
    refine xloop_walk (fX9_finds_B36 h x0 x1 x2 x3) (fX9_finds_P36 X h x0 x1 x2 x3 n sl) (fX9_finds_E36 X h x0 x1 x2 x3 n sl) (fun s' o' => fX9_finds_B36_w C hN s' o') 5000 (true, (0 : Int32)) e27 q28 ?_
    show XW X 106 [some (.ref x0), some (.int x1), some (.int x2), some (.int x3), some (.int (xbi e27)), none] [] h n sl
    refine xw_iload (pc := 106) (i := 4) (x := (xbi e27)) C dX9_finds_106 rfl ?_
    refine xw_if_eqZ (pc := 108) (b := e27) (tgt := 131) C dX9_finds_108 (by decide) (fun q => ?_) (fun q => ?_)
    · replace hm := xif_f q hm
      refine xw_iinc (pc := 131) (i := 3) (x := x3) (v := (x3 + (1 : Int32))) (L' := [some (.ref x0), some (.int x1), some (.int x2), some (.int (x3 + (1 : Int32))), some (.int (xbi e27)), none]) C dX9_finds_131 rfl (congrArg (HAdd.hAdd _) xk_i_1) (Nat.le_of_ble_eq_true rfl) rfl ?_
      refine xw_goto (pc := 134) (tgt := 19) C dX9_finds_134 (by decide) ?_
      obtain rfl := Option.some.inj hm
      refine xw_sub (pc := 19) _ ?_ (hc _ rfl)
      exact ⟨Or.inr rfl, Or.inr rfl, Or.inr rfl, Or.inr rfl, Or.inl rfl, Or.inl rfl, trivial⟩
    · replace hm := xif_t q hm
      refine xw_aload_n (pc := 111) (i := 0) (x := x0) C dX9_finds_111 rfl rfl ?_
      obtain ⟨v29, q30, hm⟩ := xbind hm
      refine xw_getR (pc := 112) C dX9_finds_112 fl_X9_23 q30 ?_
      refine xw_aload_n (pc := 115) (i := 0) (x := x0) C dX9_finds_115 rfl rfl ?_
      obtain ⟨v31, q32, hm⟩ := xbind hm
      refine xw_getI (pc := 116) C dX9_finds_116 fl_X9_153 q32 ?_
      refine xw_iload_n (pc := 119) (i := 3) (x := x3) C dX9_finds_119 rfl rfl ?_
      obtain ⟨h33, q34, hm⟩ := xbind hm
      refine xw_iastore (pc := 120) C dX9_finds_120 q34 ?_
      refine xw_aload_n (pc := 121) (i := 0) (x := x0) C dX9_finds_121 rfl rfl ?_
      refine xw_dup (pc := 122) C dX9_finds_122 rfl ?_
      obtain ⟨v35, q36, hm⟩ := xbind hm
      refine xw_getI (pc := 123) C dX9_finds_123 fl_X9_153 q36 ?_
      refine xw_iconst (pc := 126) (v := 1) C dX9_finds_126 xk_i_1 ?_
      refine xw_iadd (pc := 127) C dX9_finds_127 ?_
      obtain ⟨h37, q38, hm⟩ := xbind hm
      refine xw_put (pc := 128) C dX9_finds_128 fl_X9_153 q38 (fun _ => rfl) (fun _ => rfl) ?_
      refine xw_iinc (pc := 131) (i := 3) (x := x3) (v := (x3 + (1 : Int32))) (L' := [some (.ref x0), some (.int x1), some (.int x2), some (.int (x3 + (1 : Int32))), some (.int (xbi e27)), none]) C dX9_finds_131 rfl (congrArg (HAdd.hAdd _) xk_i_1) (Nat.le_of_ble_eq_true rfl) rfl ?_
      refine xw_goto (pc := 134) (tgt := 19) C dX9_finds_134 (by decide) ?_
      obtain rfl := Option.some.inj hm
      refine xw_sub (pc := 19) _ ?_ (hc _ rfl)
      exact ⟨Or.inr rfl, Or.inr rfl, Or.inr rfl, Or.inr rfl, Or.inl rfl, Or.inl rfl, trivial⟩
set_option maxHeartbeats 4000000 in
set_option maxRecDepth 100000 in
theorem wX9_finds {l : Launch} {n sl : Nat} {h : XH} {x0 : Nat} {x1 : Int32} {o : XH} (hm : fX9_finds h x0 x1 = some o) : XM l yX9_finds cX9_finds 6 none 2 43 [.ref x0, .int x1] h n sl none o n sl := by
  refine xm_of pnX9 [some (.ref x0), some (.int x1), none, none, none, none] 4 rfl (Nat.le_of_ble_eq_true rfl) ?_
  intro X hT C
  replace C : XOK X RX9 cX9_finds 6 "finds" none 2 43 := C
  obtain ⟨-, hN, hX⟩ := hT
  unfold fX9_finds at hm
  refine xw_aload_n (pc := 0) (i := 0) (x := x0) C dX9_finds_0 rfl rfl ?_
  obtain ⟨_, q1, hm⟩ := xbind hm
  obtain ⟨v2, q3, hm⟩ := xbind hm
  refine xw_callV1 (pc := 1) (As := []) (st := []) C dX9_finds_1 (wX9_measure q3) dd_X9_measure lk_X9_41 dv_X9_measure (xco_spec q1) rfl (Nat.le_of_ble_eq_true rfl) (Nat.le_of_ble_eq_true rfl) (Nat.le_of_ble_eq_true rfl) ⟨Nat.le_refl _, Nat.le_refl _⟩ hN ?_
  refine xw_istore_n (pc := 4) (i := 2) (x := v2) (L' := [some (.ref x0), some (.int x1), some (.int v2), none, none, none]) C dX9_finds_4 rfl (Nat.le_of_ble_eq_true rfl) rfl ?_
  refine xw_aload_n (pc := 5) (i := 0) (x := x0) C dX9_finds_5 rfl rfl ?_
  refine xw_iconst (pc := 6) (v := 0) C dX9_finds_6 xk_i_0 ?_
  obtain ⟨h4, q5, hm⟩ := xbind hm
  refine xw_put (pc := 7) C dX9_finds_7 fl_X9_153 q5 (fun _ => rfl) (fun _ => rfl) ?_
  refine xw_aload_n (pc := 10) (i := 0) (x := x0) C dX9_finds_10 rfl rfl ?_
  obtain ⟨v6, q7, hm⟩ := xbind hm
  refine xw_getR (pc := 11) C dX9_finds_11 fl_X9_7 q7 ?_
  refine xw_bipush (pc := 14) (v := 93) C dX9_finds_14 xk_b_93 ?_
  obtain ⟨v8, q9, hm⟩ := xbind hm
  refine xw_iaload (pc := 16) C dX9_finds_16 q9 ?_
  refine xw_ineg (pc := 17) C dX9_finds_17 ?_
  refine xw_istore_n (pc := 18) (i := 3) (x := (-v8)) (L' := [some (.ref x0), some (.int x1), some (.int v2), some (.int (-v8)), none, none]) C dX9_finds_18 rfl (Nat.le_of_ble_eq_true rfl) rfl ?_
  obtain ⟨e39, q40, hm⟩ := xbind hm
  refine xw_sub (pc := 19) [some (.ref x0), some (.int x1), some (.int v2), some (.int (-v8)), none, none] ⟨Or.inr rfl, Or.inr rfl, Or.inr rfl, Or.inr rfl, Or.inl rfl, Or.inl rfl, trivial⟩ ?_
  refine xloop_walk (fX9_finds_B19 x0 x1 v2) (fX9_finds_P19 X x0 x1 v2 n sl) (fX9_finds_E19 X x0 x1 v2 n sl) (fun s' o' => fX9_finds_B19_w C hN s' o') 5000 (h4, (-v8)) e39 q40 ?_
  show XW X 137 [none, none, none, none, none, none] [] e39 n sl
  obtain rfl := Option.some.inj hm
  exact xw_return (pc := 137) C dX9_finds_137 rfl hX
set_option maxHeartbeats 4000000 in
set_option maxRecDepth 100000 in
theorem wX9_in {l : Launch} {n sl : Nat} {h : XH} {x0 : Int32} {x1 : Int32} {x2 : Int32} {o : Bool} (hm : fX9_in x0 x1 x2 = some o) : XM l yX9_in cX9_in 3 (some .boolean) 0 0 [.int x0, .int x1, .int x2] h n sl (some (.int (xbi o))) h n sl := by
  refine xm_of pnX9 [some (.int x0), some (.int x1), some (.int x2)] 0 rfl (Nat.le_of_ble_eq_true rfl) ?_
  intro X hT C
  replace C : XOK X RX9 cX9_in 3 "in" (some .boolean) 0 0 := C
  obtain ⟨-, hN, hX⟩ := hT
  unfold fX9_in at hm
  refine xw_iload_n (pc := 0) (i := 0) (x := x0) C dX9_in_0 rfl rfl ?_
  refine xw_iload_n (pc := 1) (i := 1) (x := x1) C dX9_in_1 rfl rfl ?_
  refine xw_icmp_lt (pc := 2) (tgt := 14) C dX9_in_2 (by decide) (fun q => ?_) (fun q => ?_)
  · replace hm := xif_t q hm
    refine xw_iconst (pc := 14) (v := 0) C dX9_in_14 xk_i_0 ?_
    obtain rfl := Option.some.inj hm
    exact xw_zreturn (pc := 15) (v := xbi false) C dX9_in_15 rfl (xbi_nar _) hX
  · replace hm := xif_f q hm
    refine xw_iload_n (pc := 5) (i := 0) (x := x0) C dX9_in_5 rfl rfl ?_
    refine xw_iload_n (pc := 6) (i := 2) (x := x2) C dX9_in_6 rfl rfl ?_
    refine xw_icmp_gt (pc := 7) (tgt := 14) C dX9_in_7 (by decide) (fun q => ?_) (fun q => ?_)
    · replace hm := xif_t q hm
      refine xw_iconst (pc := 14) (v := 0) C dX9_in_14 xk_i_0 ?_
      obtain rfl := Option.some.inj hm
      exact xw_zreturn (pc := 15) (v := xbi false) C dX9_in_15 rfl (xbi_nar _) hX
    · replace hm := xif_f q hm
      refine xw_iconst (pc := 10) (v := 1) C dX9_in_10 xk_i_1 ?_
      refine xw_goto (pc := 11) (tgt := 15) C dX9_in_11 (by decide) ?_
      obtain rfl := Option.some.inj hm
      exact xw_zreturn (pc := 15) (v := xbi true) C dX9_in_15 rfl (xbi_nar _) hX
set_option maxHeartbeats 4000000 in
set_option maxRecDepth 100000 in
theorem wX9_modulo {l : Launch} {n sl : Nat} {h : XH} {x0 : Int32} {x1 : Int32} {o : Int32} (hm : fX9_modulo x0 x1 = some o) : XM l yX9_modulo cX9_modulo 3 (some .int) 0 0 [.int x0, .int x1] h n sl (some (.int o)) h n sl := by
  refine xm_of pnX9 [some (.int x0), some (.int x1), none] 1 rfl (Nat.le_of_ble_eq_true rfl) ?_
  intro X hT C
  replace C : XOK X RX9 cX9_modulo 3 "modulo" (some .int) 0 0 := C
  obtain ⟨-, hN, hX⟩ := hT
  unfold fX9_modulo at hm
  refine xw_iload_n (pc := 0) (i := 0) (x := x0) C dX9_modulo_0 rfl rfl ?_
  refine xw_iload_n (pc := 1) (i := 1) (x := x1) C dX9_modulo_1 rfl rfl ?_
  obtain ⟨q1, hm⟩ := xif_n hm
  refine xw_irem (pc := 2) C dX9_modulo_2 q1 ?_
  refine xw_istore_n (pc := 3) (i := 2) (x := (xrem x0 x1)) (L' := [some (.int x0), some (.int x1), some (.int (xrem x0 x1))]) C dX9_modulo_3 rfl (Nat.le_of_ble_eq_true rfl) rfl ?_
  refine xw_iload_n (pc := 4) (i := 2) (x := (xrem x0 x1)) C dX9_modulo_4 rfl rfl ?_
  refine xw_if_ge (pc := 5) (tgt := 14) C dX9_modulo_5 (by decide) (fun q => ?_) (fun q => ?_)
  · replace hm := xif_t q hm
    refine xw_iload_n (pc := 14) (i := 2) (x := (xrem x0 x1)) C dX9_modulo_14 rfl rfl ?_
    obtain rfl := Option.some.inj hm
    exact xw_ireturn (pc := 15) C dX9_modulo_15 rfl hX
  · replace hm := xif_f q hm
    refine xw_iload_n (pc := 8) (i := 2) (x := (xrem x0 x1)) C dX9_modulo_8 rfl rfl ?_
    refine xw_iload_n (pc := 9) (i := 1) (x := x1) C dX9_modulo_9 rfl rfl ?_
    refine xw_iadd (pc := 10) C dX9_modulo_10 ?_
    refine xw_goto (pc := 11) (tgt := 15) C dX9_modulo_11 (by decide) ?_
    obtain rfl := Option.some.inj hm
    exact xw_ireturn (pc := 15) C dX9_modulo_15 rfl hX
def fX9_restOf_P5 (X : XCtx) (x0 : Nat) (x1 : Int32) (x2 : Int32) (x3 : Int32) (n sl : Nat) (s : (XH × Int32)) : Prop := XW X 5 [some (.ref x0), some (.int x1), some (.int x2), some (.int x3), some (.int s.2), none] [] s.1 n sl
def fX9_restOf_E5 (X : XCtx) (x0 : Nat) (x1 : Int32) (x2 : Int32) (x3 : Int32) (n sl : Nat) (e : XH) : Prop := XW X 25 [some (.ref x0), some (.int x1), some (.int x2), some (.int x3), none, none] [] e n sl
set_option maxHeartbeats 4000000 in
set_option maxRecDepth 100000 in
theorem fX9_restOf_B5_w {X : XCtx} (C : XOK X RX9 cX9_restOf 6 "restOf" (some .int) 1 22) {n sl : Nat} (hN : XN X n sl) {x0 : Nat} {x1 : Int32} {x2 : Int32} {x3 : Int32} (s : (XH × Int32)) (o : (XH × Int32) ⊕ XH) (hm : fX9_restOf_B5 x0 x1 x2 x3 s = some o) (hc : ∀ s', o = .inl s' → fX9_restOf_P5 X x0 x1 x2 x3 n sl s') (he : ∀ e', o = .inr e' → fX9_restOf_E5 X x0 x1 x2 x3 n sl e') : fX9_restOf_P5 X x0 x1 x2 x3 n sl s := by
  obtain ⟨h, x4⟩ := s
  show XW X 5 [some (.ref x0), some (.int x1), some (.int x2), some (.int x3), some (.int x4), none] [] h n sl
  replace hm : fX9_restOf_b5 x0 x1 x2 x3 h x4 = some o := hm
  unfold fX9_restOf_b5 at hm
  refine xw_iload (pc := 5) (i := 4) (x := x4) C dX9_restOf_5 rfl ?_
  refine xw_iload_n (pc := 7) (i := 2) (x := x2) C dX9_restOf_7 rfl rfl ?_
  refine xw_icmp_ge (pc := 8) (tgt := 25) C dX9_restOf_8 (by decide) (fun q => ?_) (fun q => ?_)
  · replace hm := xif_t q hm
    obtain rfl := Option.some.inj hm
    refine xw_sub (pc := 25) _ ?_ (he _ rfl)
    exact ⟨Or.inr rfl, Or.inr rfl, Or.inr rfl, Or.inr rfl, Or.inl rfl, Or.inl rfl, trivial⟩
  · replace hm := xif_f q hm
    refine xw_aload_n (pc := 11) (i := 0) (x := x0) C dX9_restOf_11 rfl rfl ?_
    obtain ⟨v1, q2, hm⟩ := xbind hm
    refine xw_getR (pc := 12) C dX9_restOf_12 fl_X9_26 q2 ?_
    refine xw_iload (pc := 15) (i := 4) (x := x4) C dX9_restOf_15 rfl ?_
    refine xw_iconst (pc := 17) (v := 0) C dX9_restOf_17 xk_i_0 ?_
    obtain ⟨h3, q4, hm⟩ := xbind hm
    refine xw_iastore (pc := 18) C dX9_restOf_18 q4 ?_
    refine xw_iinc (pc := 19) (i := 4) (x := x4) (v := (x4 + (1 : Int32))) (L' := [some (.ref x0), some (.int x1), some (.int x2), some (.int x3), some (.int (x4 + (1 : Int32))), none]) C dX9_restOf_19 rfl (congrArg (HAdd.hAdd _) xk_i_1) (Nat.le_of_ble_eq_true rfl) rfl ?_
    refine xw_goto (pc := 22) (tgt := 5) C dX9_restOf_22 (by decide) ?_
    obtain rfl := Option.some.inj hm
    refine xw_sub (pc := 5) _ ?_ (hc _ rfl)
    exact ⟨Or.inr rfl, Or.inr rfl, Or.inr rfl, Or.inr rfl, Or.inr rfl, Or.inl rfl, trivial⟩
def fX9_restOf_P28 (X : XCtx) (x0 : Nat) (x1 : Int32) (x2 : Int32) (n sl : Nat) (s : (XH × Int32 × Int32)) : Prop := XW X 28 [some (.ref x0), some (.int x1), some (.int x2), some (.int s.2.1), some (.int s.2.2), none] [] s.1 n sl
def fX9_restOf_E28 (X : XCtx) (x0 : Nat) (x1 : Int32) (x2 : Int32) (n sl : Nat) (e : (XH × Int32)) : Prop := XW X 92 [none, none, none, some (.int e.2), none, none] [] e.1 n sl
set_option maxHeartbeats 4000000 in
set_option maxRecDepth 100000 in
theorem fX9_restOf_B28_w {X : XCtx} (C : XOK X RX9 cX9_restOf 6 "restOf" (some .int) 1 22) {n sl : Nat} (hN : XN X n sl) {x0 : Nat} {x1 : Int32} {x2 : Int32} (s : (XH × Int32 × Int32)) (o : (XH × Int32 × Int32) ⊕ (XH × Int32)) (hm : fX9_restOf_B28 x0 x1 x2 s = some o) (hc : ∀ s', o = .inl s' → fX9_restOf_P28 X x0 x1 x2 n sl s') (he : ∀ e', o = .inr e' → fX9_restOf_E28 X x0 x1 x2 n sl e') : fX9_restOf_P28 X x0 x1 x2 n sl s := by
  obtain ⟨h, x3, x4⟩ := s
  show XW X 28 [some (.ref x0), some (.int x1), some (.int x2), some (.int x3), some (.int x4), none] [] h n sl
  replace hm : fX9_restOf_b28 x0 x1 x2 h x3 x4 = some o := hm
  unfold fX9_restOf_b28 at hm
  refine xw_iload (pc := 28) (i := 4) (x := x4) C dX9_restOf_28 rfl ?_
  refine xw_aload_n (pc := 30) (i := 0) (x := x0) C dX9_restOf_30 rfl rfl ?_
  obtain ⟨v7, q8, hm⟩ := xbind hm
  refine xw_getI (pc := 31) C dX9_restOf_31 fl_X9_153 q8 ?_
  refine xw_icmp_ge (pc := 34) (tgt := 92) C dX9_restOf_34 (by decide) (fun q => ?_) (fun q => ?_)
  · replace hm := xif_t q hm
    obtain rfl := Option.some.inj hm
    refine xw_sub (pc := 92) _ ?_ (he _ rfl)
    exact ⟨Or.inl rfl, Or.inl rfl, Or.inl rfl, Or.inr rfl, Or.inl rfl, Or.inl rfl, trivial⟩
  · replace hm := xif_f q hm
    refine xw_aload_n (pc := 37) (i := 0) (x := x0) C dX9_restOf_37 rfl rfl ?_
    obtain ⟨v9, q10, hm⟩ := xbind hm
    refine xw_getR (pc := 38) C dX9_restOf_38 fl_X9_23 q10 ?_
    refine xw_iload (pc := 41) (i := 4) (x := x4) C dX9_restOf_41 rfl ?_
    obtain ⟨v11, q12, hm⟩ := xbind hm
    refine xw_iaload (pc := 43) C dX9_restOf_43 q12 ?_
    refine xw_iload_n (pc := 44) (i := 1) (x := x1) C dX9_restOf_44 rfl rfl ?_
    refine xw_imul (pc := 45) C dX9_restOf_45 ?_
    refine xw_iload_n (pc := 46) (i := 2) (x := x2) C dX9_restOf_46 rfl rfl ?_
    obtain ⟨v13, q14, hm⟩ := xbind hm
    refine xw_callS1 (pc := 47) (As := [.int (v11 * x1), .int x2]) (st := []) C dX9_restOf_47 (wX9_modulo q14) dd_X9_modulo lk_X9_47 ds_X9_modulo rfl (Nat.le_of_ble_eq_true rfl) (Nat.le_of_ble_eq_true rfl) (Nat.le_of_ble_eq_true rfl) ⟨Nat.le_refl _, Nat.le_refl _⟩ hN ?_
    refine xw_istore (pc := 50) (i := 5) (x := v13) (L' := [some (.ref x0), some (.int x1), some (.int x2), some (.int x3), some (.int x4), some (.int v13)]) C dX9_restOf_50 (Nat.le_of_ble_eq_true rfl) rfl ?_
    refine xw_aload_n (pc := 52) (i := 0) (x := x0) C dX9_restOf_52 rfl rfl ?_
    obtain ⟨v15, q16, hm⟩ := xbind hm
    refine xw_getR (pc := 53) C dX9_restOf_53 fl_X9_26 q16 ?_
    refine xw_iload (pc := 56) (i := 5) (x := v13) C dX9_restOf_56 rfl ?_
    refine xw_dup2 (pc := 58) C dX9_restOf_58 rfl rfl ?_
    obtain ⟨v17, q18, hm⟩ := xbind hm
    refine xw_iaload (pc := 59) C dX9_restOf_59 q18 ?_
    refine xw_iconst (pc := 60) (v := 1) C dX9_restOf_60 xk_i_1 ?_
    refine xw_iadd (pc := 61) C dX9_restOf_61 ?_
    obtain ⟨h19, q20, hm⟩ := xbind hm
    refine xw_iastore (pc := 62) C dX9_restOf_62 q20 ?_
    refine xw_aload_n (pc := 63) (i := 0) (x := x0) C dX9_restOf_63 rfl rfl ?_
    obtain ⟨v21, q22, hm⟩ := xbind hm
    refine xw_getR (pc := 64) C dX9_restOf_64 fl_X9_26 q22 ?_
    refine xw_iload (pc := 67) (i := 5) (x := v13) C dX9_restOf_67 rfl ?_
    obtain ⟨v23, q24, hm⟩ := xbind hm
    refine xw_iaload (pc := 69) C dX9_restOf_69 q24 ?_
    refine xw_iload_n (pc := 70) (i := 3) (x := x3) C dX9_restOf_70 rfl rfl ?_
    refine xw_icmp_le (pc := 71) (tgt := 84) C dX9_restOf_71 (by decide) (fun q => ?_) (fun q => ?_)
    · replace hm := xif_t q hm
      refine xw_iload_n (pc := 84) (i := 3) (x := x3) C dX9_restOf_84 rfl rfl ?_
      refine xw_istore_n (pc := 85) (i := 3) (x := x3) (L' := [some (.ref x0), some (.int x1), some (.int x2), some (.int x3), some (.int x4), some (.int v13)]) C dX9_restOf_85 rfl (Nat.le_of_ble_eq_true rfl) rfl ?_
      refine xw_iinc (pc := 86) (i := 4) (x := x4) (v := (x4 + (1 : Int32))) (L' := [some (.ref x0), some (.int x1), some (.int x2), some (.int x3), some (.int (x4 + (1 : Int32))), some (.int v13)]) C dX9_restOf_86 rfl (congrArg (HAdd.hAdd _) xk_i_1) (Nat.le_of_ble_eq_true rfl) rfl ?_
      refine xw_goto (pc := 89) (tgt := 28) C dX9_restOf_89 (by decide) ?_
      obtain rfl := Option.some.inj hm
      refine xw_sub (pc := 28) _ ?_ (hc _ rfl)
      exact ⟨Or.inr rfl, Or.inr rfl, Or.inr rfl, Or.inr rfl, Or.inr rfl, Or.inl rfl, trivial⟩
    · replace hm := xif_f q hm
      refine xw_aload_n (pc := 74) (i := 0) (x := x0) C dX9_restOf_74 rfl rfl ?_
      obtain ⟨v25, q26, hm⟩ := xbind hm
      refine xw_getR (pc := 75) C dX9_restOf_75 fl_X9_26 q26 ?_
      refine xw_iload (pc := 78) (i := 5) (x := v13) C dX9_restOf_78 rfl ?_
      obtain ⟨v27, q28, hm⟩ := xbind hm
      refine xw_iaload (pc := 80) C dX9_restOf_80 q28 ?_
      refine xw_goto (pc := 81) (tgt := 85) C dX9_restOf_81 (by decide) ?_
      refine xw_istore_n (pc := 85) (i := 3) (x := v27) (L' := [some (.ref x0), some (.int x1), some (.int x2), some (.int v27), some (.int x4), some (.int v13)]) C dX9_restOf_85 rfl (Nat.le_of_ble_eq_true rfl) rfl ?_
      refine xw_iinc (pc := 86) (i := 4) (x := x4) (v := (x4 + (1 : Int32))) (L' := [some (.ref x0), some (.int x1), some (.int x2), some (.int v27), some (.int (x4 + (1 : Int32))), some (.int v13)]) C dX9_restOf_86 rfl (congrArg (HAdd.hAdd _) xk_i_1) (Nat.le_of_ble_eq_true rfl) rfl ?_
      refine xw_goto (pc := 89) (tgt := 28) C dX9_restOf_89 (by decide) ?_
      obtain rfl := Option.some.inj hm
      refine xw_sub (pc := 28) _ ?_ (hc _ rfl)
      exact ⟨Or.inr rfl, Or.inr rfl, Or.inr rfl, Or.inr rfl, Or.inr rfl, Or.inl rfl, trivial⟩
set_option maxHeartbeats 4000000 in
set_option maxRecDepth 100000 in
theorem wX9_restOf {l : Launch} {n sl : Nat} {h : XH} {x0 : Nat} {x1 : Int32} {x2 : Int32} {o : Int32 × XH} (hm : fX9_restOf h x0 x1 x2 = some o) : XM l yX9_restOf cX9_restOf 6 (some .int) 1 22 [.ref x0, .int x1, .int x2] h n sl (some (.int o.1)) o.2 n sl := by
  refine xm_of pnX9 [some (.ref x0), some (.int x1), some (.int x2), none, none, none] 3 rfl (Nat.le_of_ble_eq_true rfl) ?_
  intro X hT C
  replace C : XOK X RX9 cX9_restOf 6 "restOf" (some .int) 1 22 := C
  obtain ⟨-, hN, hX⟩ := hT
  unfold fX9_restOf at hm
  refine xw_iconst (pc := 0) (v := 0) C dX9_restOf_0 xk_i_0 ?_
  refine xw_istore_n (pc := 1) (i := 3) (x := (0 : Int32)) (L' := [some (.ref x0), some (.int x1), some (.int x2), some (.int (0 : Int32)), none, none]) C dX9_restOf_1 rfl (Nat.le_of_ble_eq_true rfl) rfl ?_
  refine xw_iconst (pc := 2) (v := 0) C dX9_restOf_2 xk_i_0 ?_
  refine xw_istore (pc := 3) (i := 4) (x := (0 : Int32)) (L' := [some (.ref x0), some (.int x1), some (.int x2), some (.int (0 : Int32)), some (.int (0 : Int32)), none]) C dX9_restOf_3 (Nat.le_of_ble_eq_true rfl) rfl ?_
  obtain ⟨e5, q6, hm⟩ := xbind hm
  refine xw_sub (pc := 5) [some (.ref x0), some (.int x1), some (.int x2), some (.int (0 : Int32)), some (.int (0 : Int32)), none] ⟨Or.inr rfl, Or.inr rfl, Or.inr rfl, Or.inr rfl, Or.inr rfl, Or.inl rfl, trivial⟩ ?_
  refine xloop_walk (fX9_restOf_B5 x0 x1 x2 (0 : Int32)) (fX9_restOf_P5 X x0 x1 x2 (0 : Int32) n sl) (fX9_restOf_E5 X x0 x1 x2 (0 : Int32) n sl) (fun s' o' => fX9_restOf_B5_w C hN s' o') 5000 (h, (0 : Int32)) e5 q6 ?_
  show XW X 25 [some (.ref x0), some (.int x1), some (.int x2), some (.int (0 : Int32)), none, none] [] e5 n sl
  refine xw_iconst (pc := 25) (v := 0) C dX9_restOf_25 xk_i_0 ?_
  refine xw_istore (pc := 26) (i := 4) (x := (0 : Int32)) (L' := [some (.ref x0), some (.int x1), some (.int x2), some (.int (0 : Int32)), some (.int (0 : Int32)), none]) C dX9_restOf_26 (Nat.le_of_ble_eq_true rfl) rfl ?_
  obtain ⟨e29, q30, hm⟩ := xbind hm
  refine xw_sub (pc := 28) [some (.ref x0), some (.int x1), some (.int x2), some (.int (0 : Int32)), some (.int (0 : Int32)), none] ⟨Or.inr rfl, Or.inr rfl, Or.inr rfl, Or.inr rfl, Or.inr rfl, Or.inl rfl, trivial⟩ ?_
  refine xloop_walk (fX9_restOf_B28 x0 x1 x2) (fX9_restOf_P28 X x0 x1 x2 n sl) (fX9_restOf_E28 X x0 x1 x2 n sl) (fun s' o' => fX9_restOf_B28_w C hN s' o') 5000 (e5, (0 : Int32), (0 : Int32)) e29 q30 ?_
  show XW X 92 [none, none, none, some (.int e29.2), none, none] [] e29.1 n sl
  refine xw_iload_n (pc := 92) (i := 3) (x := e29.2) C dX9_restOf_92 rfl rfl ?_
  obtain rfl := Option.some.inj hm
  exact xw_ireturn (pc := 93) C dX9_restOf_93 rfl hX
def fX9_bestPeriod_P49 (X : XCtx) (x0 : Nat) (x1 : Int32) (x2 : Bool) (x3 : Int32) (n sl : Nat) (s : (XH × Int32 × Int32 × Int32)) : Prop := XW X 49 [some (.ref x0), some (.int x1), some (.int (xbi x2)), some (.int x3), some (.int s.2.1), some (.int s.2.2.1), some (.int s.2.2.2), none, none] [] s.1 n sl
def fX9_bestPeriod_E49 (X : XCtx) (x0 : Nat) (x1 : Int32) (x2 : Bool) (x3 : Int32) (n sl : Nat) (e : (XH × Int32 × Int32)) : Prop := XW X 118 [none, none, some (.int (xbi x2)), none, some (.int e.2.1), some (.int e.2.2), none, none, none] [] e.1 n sl
set_option maxHeartbeats 4000000 in
set_option maxRecDepth 100000 in
theorem fX9_bestPeriod_J96_w {X : XCtx} (C : XOK X RX9 cX9_bestPeriod 9 "bestPeriod" (some .int) 3 68) {n sl : Nat} (hN : XN X n sl)  {h : XH} {x0 : Nat} {x1 : Int32} {x2 : Bool} {x3 : Int32} {x5 : Int32} {x6 : Int32} {x7 : Int32} {x8 : Bool} {s0 : Int32} {o : (XH × Int32 × Int32 × Int32) ⊕ (XH × Int32 × Int32)} (hm : fX9_bestPeriod_J96 h x0 x1 x2 x3 x5 x6 x7 x8 s0 = some o) (hc : ∀ s', o = .inl s' → fX9_bestPeriod_P49 X x0 x1 x2 x3 n sl s') (he : ∀ e', o = .inr e' → fX9_bestPeriod_E49 X x0 x1 x2 x3 n sl e') : XW X 96 [some (.ref x0), some (.int x1), some (.int (xbi x2)), some (.int x3), none, some (.int x5), some (.int x6), some (.int x7), some (.int (xbi x8))] [.int s0] h n sl := by
  unfold fX9_bestPeriod_J96 at hm
  refine xw_istore (pc := 96) (i := 4) (x := s0) (L' := [some (.ref x0), some (.int x1), some (.int (xbi x2)), some (.int x3), some (.int s0), some (.int x5), some (.int x6), some (.int x7), some (.int (xbi x8))]) C dX9_bestPeriod_96 (Nat.le_of_ble_eq_true rfl) rfl ?_
  refine xw_iload (pc := 98) (i := 8) (x := (xbi x8)) C dX9_bestPeriod_98 rfl ?_
  refine xw_if_eqZ (pc := 100) (b := x8) (tgt := 108) C dX9_bestPeriod_100 (by decide) (fun q => ?_) (fun q => ?_)
  · replace hm := xif_f q hm
    refine xw_iload (pc := 108) (i := 5) (x := x5) C dX9_bestPeriod_108 rfl ?_
    refine xw_istore (pc := 110) (i := 5) (x := x5) (L' := [some (.ref x0), some (.int x1), some (.int (xbi x2)), some (.int x3), some (.int s0), some (.int x5), some (.int x6), some (.int x7), some (.int (xbi x8))]) C dX9_bestPeriod_110 (Nat.le_of_ble_eq_true rfl) rfl ?_
    refine xw_iinc (pc := 112) (i := 6) (x := x6) (v := (x6 + (1 : Int32))) (L' := [some (.ref x0), some (.int x1), some (.int (xbi x2)), some (.int x3), some (.int s0), some (.int x5), some (.int (x6 + (1 : Int32))), some (.int x7), some (.int (xbi x8))]) C dX9_bestPeriod_112 rfl (congrArg (HAdd.hAdd _) xk_i_1) (Nat.le_of_ble_eq_true rfl) rfl ?_
    refine xw_goto (pc := 115) (tgt := 49) C dX9_bestPeriod_115 (by decide) ?_
    obtain rfl := Option.some.inj hm
    refine xw_sub (pc := 49) _ ?_ (hc _ rfl)
    exact ⟨Or.inr rfl, Or.inr rfl, Or.inr rfl, Or.inr rfl, Or.inr rfl, Or.inr rfl, Or.inr rfl, Or.inl rfl, Or.inl rfl, trivial⟩
  · replace hm := xif_t q hm
    refine xw_iload (pc := 103) (i := 7) (x := x7) C dX9_bestPeriod_103 rfl ?_
    refine xw_goto (pc := 105) (tgt := 110) C dX9_bestPeriod_105 (by decide) ?_
    refine xw_istore (pc := 110) (i := 5) (x := x7) (L' := [some (.ref x0), some (.int x1), some (.int (xbi x2)), some (.int x3), some (.int s0), some (.int x7), some (.int x6), some (.int x7), some (.int (xbi x8))]) C dX9_bestPeriod_110 (Nat.le_of_ble_eq_true rfl) rfl ?_
    refine xw_iinc (pc := 112) (i := 6) (x := x6) (v := (x6 + (1 : Int32))) (L' := [some (.ref x0), some (.int x1), some (.int (xbi x2)), some (.int x3), some (.int s0), some (.int x7), some (.int (x6 + (1 : Int32))), some (.int x7), some (.int (xbi x8))]) C dX9_bestPeriod_112 rfl (congrArg (HAdd.hAdd _) xk_i_1) (Nat.le_of_ble_eq_true rfl) rfl ?_
    refine xw_goto (pc := 115) (tgt := 49) C dX9_bestPeriod_115 (by decide) ?_
    obtain rfl := Option.some.inj hm
    refine xw_sub (pc := 49) _ ?_ (hc _ rfl)
    exact ⟨Or.inr rfl, Or.inr rfl, Or.inr rfl, Or.inr rfl, Or.inr rfl, Or.inr rfl, Or.inr rfl, Or.inl rfl, Or.inl rfl, trivial⟩
set_option maxHeartbeats 4000000 in
set_option maxRecDepth 100000 in
theorem fX9_bestPeriod_J82_w {X : XCtx} (C : XOK X RX9 cX9_bestPeriod 9 "bestPeriod" (some .int) 3 68) {n sl : Nat} (hN : XN X n sl)  {h : XH} {x0 : Nat} {x1 : Int32} {x2 : Bool} {x3 : Int32} {x4 : Int32} {x5 : Int32} {x6 : Int32} {x7 : Int32} {s0 : Bool} {o : (XH × Int32 × Int32 × Int32) ⊕ (XH × Int32 × Int32)} (hm : fX9_bestPeriod_J82 h x0 x1 x2 x3 x4 x5 x6 x7 s0 = some o) (hc : ∀ s', o = .inl s' → fX9_bestPeriod_P49 X x0 x1 x2 x3 n sl s') (he : ∀ e', o = .inr e' → fX9_bestPeriod_E49 X x0 x1 x2 x3 n sl e') : XW X 82 [some (.ref x0), some (.int x1), some (.int (xbi x2)), some (.int x3), some (.int x4), some (.int x5), some (.int x6), some (.int x7), none] [.int (xbi s0)] h n sl := by
  unfold fX9_bestPeriod_J82 at hm
  refine xw_istore (pc := 82) (i := 8) (x := (xbi s0)) (L' := [some (.ref x0), some (.int x1), some (.int (xbi x2)), some (.int x3), some (.int x4), some (.int x5), some (.int x6), some (.int x7), some (.int (xbi s0))]) C dX9_bestPeriod_82 (Nat.le_of_ble_eq_true rfl) rfl ?_
  refine xw_iload (pc := 84) (i := 8) (x := (xbi s0)) C dX9_bestPeriod_84 rfl ?_
  refine xw_if_eqZ (pc := 86) (b := s0) (tgt := 94) C dX9_bestPeriod_86 (by decide) (fun q => ?_) (fun q => ?_)
  · replace hm := xif_f q hm
    refine xw_iload (pc := 94) (i := 4) (x := x4) C dX9_bestPeriod_94 rfl ?_
    exact xw_sub (pc := 96) [some (.ref x0), some (.int x1), some (.int (xbi x2)), some (.int x3), none, some (.int x5), some (.int x6), some (.int x7), some (.int (xbi s0))] ⟨Or.inr rfl, Or.inr rfl, Or.inr rfl, Or.inr rfl, Or.inl rfl, Or.inr rfl, Or.inr rfl, Or.inr rfl, Or.inr rfl, trivial⟩ (fX9_bestPeriod_J96_w C hN hm hc he)
  · replace hm := xif_t q hm
    refine xw_iload (pc := 89) (i := 6) (x := x6) C dX9_bestPeriod_89 rfl ?_
    refine xw_goto (pc := 91) (tgt := 96) C dX9_bestPeriod_91 (by decide) ?_
    exact xw_sub (pc := 96) [some (.ref x0), some (.int x1), some (.int (xbi x2)), some (.int x3), none, some (.int x5), some (.int x6), some (.int x7), some (.int (xbi s0))] ⟨Or.inr rfl, Or.inr rfl, Or.inr rfl, Or.inr rfl, Or.inl rfl, Or.inr rfl, Or.inr rfl, Or.inr rfl, Or.inr rfl, trivial⟩ (fX9_bestPeriod_J96_w C hN hm hc he)
set_option maxHeartbeats 4000000 in
set_option maxRecDepth 100000 in
theorem fX9_bestPeriod_J77_w {X : XCtx} (C : XOK X RX9 cX9_bestPeriod 9 "bestPeriod" (some .int) 3 68) {n sl : Nat} (hN : XN X n sl)  {h : XH} {x0 : Nat} {x1 : Int32} {x2 : Bool} {x3 : Int32} {x4 : Int32} {x5 : Int32} {x6 : Int32} {x7 : Int32} {o : (XH × Int32 × Int32 × Int32) ⊕ (XH × Int32 × Int32)} (hm : fX9_bestPeriod_J77 h x0 x1 x2 x3 x4 x5 x6 x7 = some o) (hc : ∀ s', o = .inl s' → fX9_bestPeriod_P49 X x0 x1 x2 x3 n sl s') (he : ∀ e', o = .inr e' → fX9_bestPeriod_E49 X x0 x1 x2 x3 n sl e') : XW X 77 [some (.ref x0), some (.int x1), some (.int (xbi x2)), some (.int x3), some (.int x4), some (.int x5), some (.int x6), some (.int x7), none] [] h n sl := by
  unfold fX9_bestPeriod_J77 at hm
  refine xw_iconst (pc := 77) (v := 1) C dX9_bestPeriod_77 xk_i_1 ?_
  refine xw_goto (pc := 78) (tgt := 82) C dX9_bestPeriod_78 (by decide) ?_
  exact xw_sub (pc := 82) [some (.ref x0), some (.int x1), some (.int (xbi x2)), some (.int x3), some (.int x4), some (.int x5), some (.int x6), some (.int x7), none] ⟨Or.inr rfl, Or.inr rfl, Or.inr rfl, Or.inr rfl, Or.inr rfl, Or.inr rfl, Or.inr rfl, Or.inr rfl, Or.inl rfl, trivial⟩ (fX9_bestPeriod_J82_w C hN hm hc he)
set_option maxHeartbeats 4000000 in
set_option maxRecDepth 100000 in
theorem fX9_bestPeriod_B49_w {X : XCtx} (C : XOK X RX9 cX9_bestPeriod 9 "bestPeriod" (some .int) 3 68) {n sl : Nat} (hN : XN X n sl) {x0 : Nat} {x1 : Int32} {x2 : Bool} {x3 : Int32} (s : (XH × Int32 × Int32 × Int32)) (o : (XH × Int32 × Int32 × Int32) ⊕ (XH × Int32 × Int32)) (hm : fX9_bestPeriod_B49 x0 x1 x2 x3 s = some o) (hc : ∀ s', o = .inl s' → fX9_bestPeriod_P49 X x0 x1 x2 x3 n sl s') (he : ∀ e', o = .inr e' → fX9_bestPeriod_E49 X x0 x1 x2 x3 n sl e') : fX9_bestPeriod_P49 X x0 x1 x2 x3 n sl s := by
  obtain ⟨h, x4, x5, x6⟩ := s
  show XW X 49 [some (.ref x0), some (.int x1), some (.int (xbi x2)), some (.int x3), some (.int x4), some (.int x5), some (.int x6), none, none] [] h n sl
  replace hm : fX9_bestPeriod_b49 x0 x1 x2 x3 h x4 x5 x6 = some o := hm
  unfold fX9_bestPeriod_b49 at hm
  refine xw_iload (pc := 49) (i := 6) (x := x6) C dX9_bestPeriod_49 rfl ?_
  refine xw_iload_n (pc := 51) (i := 1) (x := x1) C dX9_bestPeriod_51 rfl rfl ?_
  refine xw_icmp_gt (pc := 52) (tgt := 118) C dX9_bestPeriod_52 (by decide) (fun q => ?_) (fun q => ?_)
  · replace hm := xif_t q hm
    obtain rfl := Option.some.inj hm
    refine xw_sub (pc := 118) _ ?_ (he _ rfl)
    exact ⟨Or.inl rfl, Or.inl rfl, Or.inr rfl, Or.inl rfl, Or.inr rfl, Or.inr rfl, Or.inl rfl, Or.inl rfl, Or.inl rfl, trivial⟩
  · replace hm := xif_f q hm
    refine xw_aload_n (pc := 55) (i := 0) (x := x0) C dX9_bestPeriod_55 rfl rfl ?_
    refine xw_iload (pc := 56) (i := 6) (x := x6) C dX9_bestPeriod_56 rfl ?_
    refine xw_iload_n (pc := 58) (i := 3) (x := x3) C dX9_bestPeriod_58 rfl rfl ?_
    obtain ⟨_, q11, hm⟩ := xbind hm
    obtain ⟨v12, q13, hm⟩ := xbind hm
    refine xw_callV1 (pc := 59) (As := [.int x6, .int x3]) (st := []) C dX9_bestPeriod_59 (wX9_restOf q13) dd_X9_restOf lk_X9_163 dv_X9_restOf (xco_spec q11) rfl (Nat.le_of_ble_eq_true rfl) (Nat.le_of_ble_eq_true rfl) (Nat.le_of_ble_eq_true rfl) ⟨Nat.le_refl _, Nat.le_refl _⟩ hN ?_
    refine xw_istore (pc := 62) (i := 7) (x := v12.1) (L' := [some (.ref x0), some (.int x1), some (.int (xbi x2)), some (.int x3), some (.int x4), some (.int x5), some (.int x6), some (.int v12.1), none]) C dX9_bestPeriod_62 (Nat.le_of_ble_eq_true rfl) rfl ?_
    refine xw_iload (pc := 64) (i := 6) (x := x6) C dX9_bestPeriod_64 rfl ?_
    refine xw_iconst (pc := 66) (v := 1) C dX9_bestPeriod_66 xk_i_1 ?_
    refine xw_icmp_eq (pc := 67) (tgt := 77) C dX9_bestPeriod_67 (by decide) (fun q => ?_) (fun q => ?_)
    · replace hm := xif_t q hm
      exact xw_sub (pc := 77) [some (.ref x0), some (.int x1), some (.int (xbi x2)), some (.int x3), some (.int x4), some (.int x5), some (.int x6), some (.int v12.1), none] ⟨Or.inr rfl, Or.inr rfl, Or.inr rfl, Or.inr rfl, Or.inr rfl, Or.inr rfl, Or.inr rfl, Or.inr rfl, Or.inl rfl, trivial⟩ (fX9_bestPeriod_J77_w C hN hm hc he)
    · replace hm := xif_f q hm
      refine xw_iload (pc := 70) (i := 7) (x := v12.1) C dX9_bestPeriod_70 rfl ?_
      refine xw_iload (pc := 72) (i := 5) (x := x5) C dX9_bestPeriod_72 rfl ?_
      refine xw_icmp_ge (pc := 74) (tgt := 81) C dX9_bestPeriod_74 (by decide) (fun q => ?_) (fun q => ?_)
      · replace hm := xif_t q hm
        refine xw_iconst (pc := 81) (v := 0) C dX9_bestPeriod_81 xk_i_0 ?_
        exact xw_sub (pc := 82) [some (.ref x0), some (.int x1), some (.int (xbi x2)), some (.int x3), some (.int x4), some (.int x5), some (.int x6), some (.int v12.1), none] ⟨Or.inr rfl, Or.inr rfl, Or.inr rfl, Or.inr rfl, Or.inr rfl, Or.inr rfl, Or.inr rfl, Or.inr rfl, Or.inl rfl, trivial⟩ (fX9_bestPeriod_J82_w C hN hm hc he)
      · replace hm := xif_f q hm
        exact xw_sub (pc := 77) [some (.ref x0), some (.int x1), some (.int (xbi x2)), some (.int x3), some (.int x4), some (.int x5), some (.int x6), some (.int v12.1), none] ⟨Or.inr rfl, Or.inr rfl, Or.inr rfl, Or.inr rfl, Or.inr rfl, Or.inr rfl, Or.inr rfl, Or.inr rfl, Or.inl rfl, trivial⟩ (fX9_bestPeriod_J77_w C hN hm hc he)
set_option maxHeartbeats 4000000 in
set_option maxRecDepth 100000 in
theorem wX9_bestPeriod {l : Launch} {n sl : Nat} {h : XH} {x0 : Nat} {x1 : Int32} {x2 : Bool} {o : Int32 × XH} (hm : fX9_bestPeriod h x0 x1 x2 = some o) : XM l yX9_bestPeriod cX9_bestPeriod 9 (some .int) 3 68 [.ref x0, .int x1, .int (xbi x2)] h n sl (some (.int o.1)) o.2 n sl := by
  refine xm_of pnX9 [some (.ref x0), some (.int x1), some (.int (xbi x2)), none, none, none, none, none, none] 6 rfl (Nat.le_of_ble_eq_true rfl) ?_
  intro X hT C
  replace C : XOK X RX9 cX9_bestPeriod 9 "bestPeriod" (some .int) 3 68 := C
  obtain ⟨-, hN, hX⟩ := hT
  unfold fX9_bestPeriod at hm
  refine xw_iload_n (pc := 0) (i := 1) (x := x1) C dX9_bestPeriod_0 rfl rfl ?_
  refine xw_iconst (pc := 1) (v := 1) C dX9_bestPeriod_1 xk_i_1 ?_
  refine xw_sipush (pc := 2) (v := 500) C dX9_bestPeriod_2 xk_s_500 ?_
  obtain ⟨v1, q2, hm⟩ := xbind hm
  refine xw_callS1 (pc := 5) (As := [.int x1, .int (1 : Int32), .int (500 : Int32)]) (st := []) C dX9_bestPeriod_5 (wX9_in q2) dd_X9_in lk_X9_55 ds_X9_in rfl (Nat.le_of_ble_eq_true rfl) (Nat.le_of_ble_eq_true rfl) (Nat.le_of_ble_eq_true rfl) ⟨Nat.le_refl _, Nat.le_refl _⟩ hN ?_
  refine xw_if_neZ (pc := 8) (b := v1) (tgt := 15) C dX9_bestPeriod_8 (by decide) (fun q => ?_) (fun q => ?_)
  · replace hm := xif_t q hm
    refine xw_aload_n (pc := 15) (i := 0) (x := x0) C dX9_bestPeriod_15 rfl rfl ?_
    refine xw_sipush (pc := 16) (v := -1004) C dX9_bestPeriod_16 xk_s_m1004 ?_
    obtain ⟨_, q3, hm⟩ := xbind hm
    obtain ⟨h4, q5, hm⟩ := xbind hm
    refine xw_callV0 (pc := 19) (As := [.int (-1004 : Int32)]) (st := []) C dX9_bestPeriod_19 (wX9_finds q5) dd_X9_finds lk_X9_156 dv_X9_finds (xco_spec q3) rfl (Nat.le_of_ble_eq_true rfl) (Nat.le_of_ble_eq_true rfl) (Nat.le_of_ble_eq_true rfl) ⟨Nat.le_refl _, Nat.le_refl _⟩ hN ?_
    refine xw_aload_n (pc := 22) (i := 0) (x := x0) C dX9_bestPeriod_22 rfl rfl ?_
    obtain ⟨v6, q7, hm⟩ := xbind hm
    refine xw_getI (pc := 23) C dX9_bestPeriod_23 fl_X9_153 q7 ?_
    refine xw_if_ne (pc := 26) (tgt := 33) C dX9_bestPeriod_26 (by decide) (fun q => ?_) (fun q => ?_)
    · replace hm := xif_f q hm
      refine xw_aload_n (pc := 33) (i := 0) (x := x0) C dX9_bestPeriod_33 rfl rfl ?_
      obtain ⟨_, q8, hm⟩ := xbind hm
      obtain ⟨v9, q10, hm⟩ := xbind hm
      refine xw_callV1 (pc := 34) (As := []) (st := []) C dX9_bestPeriod_34 (wX9_measure q10) dd_X9_measure lk_X9_41 dv_X9_measure (xco_spec q8) rfl (Nat.le_of_ble_eq_true rfl) (Nat.le_of_ble_eq_true rfl) (Nat.le_of_ble_eq_true rfl) ⟨Nat.le_refl _, Nat.le_refl _⟩ hN ?_
      refine xw_istore_n (pc := 37) (i := 3) (x := v9) (L' := [some (.ref x0), some (.int x1), some (.int (xbi x2)), some (.int v9), none, none, none, none, none]) C dX9_bestPeriod_37 rfl (Nat.le_of_ble_eq_true rfl) rfl ?_
      refine xw_sipush (pc := 38) (v := -1004) C dX9_bestPeriod_38 xk_s_m1004 ?_
      refine xw_istore (pc := 41) (i := 4) (x := (-1004 : Int32)) (L' := [some (.ref x0), some (.int x1), some (.int (xbi x2)), some (.int v9), some (.int (-1004 : Int32)), none, none, none, none]) C dX9_bestPeriod_41 (Nat.le_of_ble_eq_true rfl) rfl ?_
      refine xw_iconst (pc := 43) (v := 0) C dX9_bestPeriod_43 xk_i_0 ?_
      refine xw_istore (pc := 44) (i := 5) (x := (0 : Int32)) (L' := [some (.ref x0), some (.int x1), some (.int (xbi x2)), some (.int v9), some (.int (-1004 : Int32)), some (.int (0 : Int32)), none, none, none]) C dX9_bestPeriod_44 (Nat.le_of_ble_eq_true rfl) rfl ?_
      refine xw_iconst (pc := 46) (v := 1) C dX9_bestPeriod_46 xk_i_1 ?_
      refine xw_istore (pc := 47) (i := 6) (x := (1 : Int32)) (L' := [some (.ref x0), some (.int x1), some (.int (xbi x2)), some (.int v9), some (.int (-1004 : Int32)), some (.int (0 : Int32)), some (.int (1 : Int32)), none, none]) C dX9_bestPeriod_47 (Nat.le_of_ble_eq_true rfl) rfl ?_
      obtain ⟨e14, q15, hm⟩ := xbind hm
      refine xw_sub (pc := 49) [some (.ref x0), some (.int x1), some (.int (xbi x2)), some (.int v9), some (.int (-1004 : Int32)), some (.int (0 : Int32)), some (.int (1 : Int32)), none, none] ⟨Or.inr rfl, Or.inr rfl, Or.inr rfl, Or.inr rfl, Or.inr rfl, Or.inr rfl, Or.inr rfl, Or.inl rfl, Or.inl rfl, trivial⟩ ?_
      refine xloop_walk (fX9_bestPeriod_B49 x0 x1 x2 v9) (fX9_bestPeriod_P49 X x0 x1 x2 v9 n sl) (fX9_bestPeriod_E49 X x0 x1 x2 v9 n sl) (fun s' o' => fX9_bestPeriod_B49_w C hN s' o') 5000 (h4, (-1004 : Int32), (0 : Int32), (1 : Int32)) e14 q15 ?_
      show XW X 118 [none, none, some (.int (xbi x2)), none, some (.int e14.2.1), some (.int e14.2.2), none, none, none] [] e14.1 n sl
      refine xw_iload_n (pc := 118) (i := 2) (x := (xbi x2)) C dX9_bestPeriod_118 rfl rfl ?_
      refine xw_if_eqZ (pc := 119) (b := x2) (tgt := 127) C dX9_bestPeriod_119 (by decide) (fun q => ?_) (fun q => ?_)
      · replace hm := xif_f q hm
        refine xw_iload (pc := 127) (i := 4) (x := e14.2.1) C dX9_bestPeriod_127 rfl ?_
        obtain rfl := Option.some.inj hm
        exact xw_ireturn (pc := 129) C dX9_bestPeriod_129 rfl hX
      · replace hm := xif_t q hm
        refine xw_iload (pc := 122) (i := 5) (x := e14.2.2) C dX9_bestPeriod_122 rfl ?_
        refine xw_goto (pc := 124) (tgt := 129) C dX9_bestPeriod_124 (by decide) ?_
        obtain rfl := Option.some.inj hm
        exact xw_ireturn (pc := 129) C dX9_bestPeriod_129 rfl hX
    · replace hm := xif_t q hm
      refine xw_sipush (pc := 29) (v := -1004) C dX9_bestPeriod_29 xk_s_m1004 ?_
      obtain rfl := Option.some.inj hm
      exact xw_ireturn (pc := 32) C dX9_bestPeriod_32 rfl hX
  · replace hm := xif_f q hm
    refine xw_sipush (pc := 11) (v := -1001) C dX9_bestPeriod_11 xk_s_m1001 ?_
    obtain rfl := Option.some.inj hm
    exact xw_ireturn (pc := 14) C dX9_bestPeriod_14 rfl hX
set_option maxHeartbeats 4000000 in
set_option maxRecDepth 100000 in
theorem wX9_candidate {l : Launch} {n sl : Nat} {h : XH} {x0 : Nat} {x1 : Int32} {o : Int32 × XH} (hm : fX9_candidate h x0 x1 = some o) : XM l yX9_candidate cX9_candidate 2 (some .int) 3 68 [.ref x0, .int x1] h n sl (some (.int o.1)) o.2 n sl := by
  refine xm_of pnX9 [some (.ref x0), some (.int x1)] 0 rfl (Nat.le_of_ble_eq_true rfl) ?_
  intro X hT C
  replace C : XOK X RX9 cX9_candidate 2 "candidate" (some .int) 3 68 := C
  obtain ⟨-, hN, hX⟩ := hT
  unfold fX9_candidate at hm
  refine xw_iload_n (pc := 0) (i := 1) (x := x1) C dX9_candidate_0 rfl rfl ?_
  refine xw_if_ge (pc := 1) (tgt := 8) C dX9_candidate_1 (by decide) (fun q => ?_) (fun q => ?_)
  · replace hm := xif_t q hm
    refine xw_aload_n (pc := 8) (i := 0) (x := x0) C dX9_candidate_8 rfl rfl ?_
    refine xw_sipush (pc := 9) (v := -1004) C dX9_candidate_9 xk_s_m1004 ?_
    obtain ⟨_, q1, hm⟩ := xbind hm
    obtain ⟨h2, q3, hm⟩ := xbind hm
    refine xw_callV0 (pc := 12) (As := [.int (-1004 : Int32)]) (st := []) C dX9_candidate_12 (wX9_finds q3) dd_X9_finds lk_X9_156 dv_X9_finds (xco_spec q1) rfl (Nat.le_of_ble_eq_true rfl) (Nat.le_of_ble_eq_true rfl) (Nat.le_of_ble_eq_true rfl) ⟨Nat.le_refl _, Nat.le_refl _⟩ hN ?_
    refine xw_iload_n (pc := 15) (i := 1) (x := x1) C dX9_candidate_15 rfl rfl ?_
    refine xw_aload_n (pc := 16) (i := 0) (x := x0) C dX9_candidate_16 rfl rfl ?_
    obtain ⟨v4, q5, hm⟩ := xbind hm
    refine xw_getI (pc := 17) C dX9_candidate_17 fl_X9_153 q5 ?_
    refine xw_icmp_ge (pc := 20) (tgt := 32) C dX9_candidate_20 (by decide) (fun q => ?_) (fun q => ?_)
    · replace hm := xif_t q hm
      refine xw_sipush (pc := 32) (v := -1004) C dX9_candidate_32 xk_s_m1004 ?_
      obtain rfl := Option.some.inj hm
      exact xw_ireturn (pc := 35) C dX9_candidate_35 rfl hX
    · replace hm := xif_f q hm
      refine xw_aload_n (pc := 23) (i := 0) (x := x0) C dX9_candidate_23 rfl rfl ?_
      obtain ⟨v6, q7, hm⟩ := xbind hm
      refine xw_getR (pc := 24) C dX9_candidate_24 fl_X9_23 q7 ?_
      refine xw_iload_n (pc := 27) (i := 1) (x := x1) C dX9_candidate_27 rfl rfl ?_
      obtain ⟨v8, q9, hm⟩ := xbind hm
      refine xw_iaload (pc := 28) C dX9_candidate_28 q9 ?_
      refine xw_goto (pc := 29) (tgt := 35) C dX9_candidate_29 (by decide) ?_
      obtain rfl := Option.some.inj hm
      exact xw_ireturn (pc := 35) C dX9_candidate_35 rfl hX
  · replace hm := xif_f q hm
    refine xw_sipush (pc := 4) (v := -1001) C dX9_candidate_4 xk_s_m1001 ?_
    obtain rfl := Option.some.inj hm
    exact xw_ireturn (pc := 7) C dX9_candidate_7 rfl hX
set_option maxHeartbeats 4000000 in
set_option maxRecDepth 100000 in
theorem wX9_candidates {l : Launch} {n sl : Nat} {h : XH} {x0 : Nat} {o : Int32 × XH} (hm : fX9_candidates h x0 = some o) : XM l yX9_candidates cX9_candidates 1 (some .int) 3 68 [.ref x0] h n sl (some (.int o.1)) o.2 n sl := by
  refine xm_of pnX9 [some (.ref x0)] 0 rfl (Nat.le_of_ble_eq_true rfl) ?_
  intro X hT C
  replace C : XOK X RX9 cX9_candidates 1 "candidates" (some .int) 3 68 := C
  obtain ⟨-, hN, hX⟩ := hT
  unfold fX9_candidates at hm
  refine xw_aload_n (pc := 0) (i := 0) (x := x0) C dX9_candidates_0 rfl rfl ?_
  refine xw_sipush (pc := 1) (v := -1004) C dX9_candidates_1 xk_s_m1004 ?_
  obtain ⟨_, q1, hm⟩ := xbind hm
  obtain ⟨h2, q3, hm⟩ := xbind hm
  refine xw_callV0 (pc := 4) (As := [.int (-1004 : Int32)]) (st := []) C dX9_candidates_4 (wX9_finds q3) dd_X9_finds lk_X9_156 dv_X9_finds (xco_spec q1) rfl (Nat.le_of_ble_eq_true rfl) (Nat.le_of_ble_eq_true rfl) (Nat.le_of_ble_eq_true rfl) ⟨Nat.le_refl _, Nat.le_refl _⟩ hN ?_
  refine xw_aload_n (pc := 7) (i := 0) (x := x0) C dX9_candidates_7 rfl rfl ?_
  obtain ⟨v4, q5, hm⟩ := xbind hm
  refine xw_getI (pc := 8) C dX9_candidates_8 fl_X9_153 q5 ?_
  obtain rfl := Option.some.inj hm
  exact xw_ireturn (pc := 11) C dX9_candidates_11 rfl hX
set_option maxHeartbeats 4000000 in
set_option maxRecDepth 100000 in
theorem wX9_tickOf {l : Launch} {n sl : Nat} {h : XH} {x0 : Nat} {x1 : Int32} {o : Int32} (hm : fX9_tickOf h x0 x1 = some o) : XM l yX9_tickOf cX9_tickOf 2 (some .int) 0 0 [.ref x0, .int x1] h n sl (some (.int o)) h n sl := by
  refine xm_of pnX9 [some (.ref x0), some (.int x1)] 0 rfl (Nat.le_of_ble_eq_true rfl) ?_
  intro X hT C
  replace C : XOK X RX9 cX9_tickOf 2 "tickOf" (some .int) 0 0 := C
  obtain ⟨-, hN, hX⟩ := hT
  unfold fX9_tickOf at hm
  refine xw_aload_n (pc := 0) (i := 0) (x := x0) C dX9_tickOf_0 rfl rfl ?_
  obtain ⟨v1, q2, hm⟩ := xbind hm
  refine xw_getR (pc := 1) C dX9_tickOf_1 fl_X9_7 q2 ?_
  refine xw_bipush (pc := 4) (v := 64) C dX9_tickOf_4 xk_b_64 ?_
  refine xw_iconst (pc := 6) (v := 2) C dX9_tickOf_6 xk_i_2 ?_
  refine xw_iload_n (pc := 7) (i := 1) (x := x1) C dX9_tickOf_7 rfl rfl ?_
  refine xw_imul (pc := 8) C dX9_tickOf_8 ?_
  refine xw_iadd (pc := 9) C dX9_tickOf_9 ?_
  obtain ⟨v3, q4, hm⟩ := xbind hm
  refine xw_iaload (pc := 10) C dX9_tickOf_10 q4 ?_
  obtain rfl := Option.some.inj hm
  exact xw_ireturn (pc := 11) C dX9_tickOf_11 rfl hX
def fX9_changeFrom_P2 (X : XCtx) (h : XH) (x0 : Nat) (x1 : Int32) (n sl : Nat) (s : Int32) : Prop := XW X 2 [some (.ref x0), some (.int x1), some (.int s)] [] h n sl
def fX9_changeFrom_E2 (X : XCtx) (h : XH) (x0 : Nat) (x1 : Int32) (n sl : Nat) (e : Int32) : Prop := XW X 28 [none, none, some (.int e)] [] h n sl
set_option maxHeartbeats 4000000 in
set_option maxRecDepth 100000 in
theorem fX9_changeFrom_B2_w {X : XCtx} (C : XOK X RX9 cX9_changeFrom 3 "changeFrom" (some .int) 1 21) {n sl : Nat} (hN : XN X n sl) {h : XH} {x0 : Nat} {x1 : Int32} (s : Int32) (o : Int32 ⊕ Int32) (hm : fX9_changeFrom_B2 h x0 x1 s = some o) (hc : ∀ s', o = .inl s' → fX9_changeFrom_P2 X h x0 x1 n sl s') (he : ∀ e', o = .inr e' → fX9_changeFrom_E2 X h x0 x1 n sl e') : fX9_changeFrom_P2 X h x0 x1 n sl s := by
  revert s; intro x2 hm
  show XW X 2 [some (.ref x0), some (.int x1), some (.int x2)] [] h n sl
  replace hm : fX9_changeFrom_b2 h x0 x1 x2 = some o := hm
  unfold fX9_changeFrom_b2 at hm
  refine xw_iload_n (pc := 2) (i := 2) (x := x2) C dX9_changeFrom_2 rfl rfl ?_
  refine xw_aload_n (pc := 3) (i := 0) (x := x0) C dX9_changeFrom_3 rfl rfl ?_
  obtain ⟨v1, q2, hm⟩ := xbind hm
  refine xw_getR (pc := 4) C dX9_changeFrom_4 fl_X9_7 q2 ?_
  refine xw_bipush (pc := 7) (v := 63) C dX9_changeFrom_7 xk_b_63 ?_
  obtain ⟨v3, q4, hm⟩ := xbind hm
  refine xw_iaload (pc := 9) C dX9_changeFrom_9 q4 ?_
  refine xw_icmp_ge (pc := 10) (tgt := 28) C dX9_changeFrom_10 (by decide) (fun q => ?_) (fun q => ?_)
  · replace hm := xif_t q hm
    obtain rfl := Option.some.inj hm
    refine xw_sub (pc := 28) _ ?_ (he _ rfl)
    exact ⟨Or.inl rfl, Or.inl rfl, Or.inr rfl, trivial⟩
  · replace hm := xif_f q hm
    refine xw_aload_n (pc := 13) (i := 0) (x := x0) C dX9_changeFrom_13 rfl rfl ?_
    refine xw_iload_n (pc := 14) (i := 2) (x := x2) C dX9_changeFrom_14 rfl rfl ?_
    obtain ⟨_, q5, hm⟩ := xbind hm
    obtain ⟨v6, q7, hm⟩ := xbind hm
    refine xw_callV1 (pc := 15) (As := [.int x2]) (st := []) C dX9_changeFrom_15 (wX9_tickOf q7) dd_X9_tickOf lk_X9_51 dv_X9_tickOf (xco_spec q5) rfl (Nat.le_of_ble_eq_true rfl) (Nat.le_of_ble_eq_true rfl) (Nat.le_of_ble_eq_true rfl) ⟨Nat.le_refl _, Nat.le_refl _⟩ hN ?_
    refine xw_iload_n (pc := 18) (i := 1) (x := x1) C dX9_changeFrom_18 rfl rfl ?_
    refine xw_icmp_ge (pc := 19) (tgt := 28) C dX9_changeFrom_19 (by decide) (fun q => ?_) (fun q => ?_)
    · replace hm := xif_t q hm
      obtain rfl := Option.some.inj hm
      refine xw_sub (pc := 28) _ ?_ (he _ rfl)
      exact ⟨Or.inl rfl, Or.inl rfl, Or.inr rfl, trivial⟩
    · replace hm := xif_f q hm
      refine xw_iinc (pc := 22) (i := 2) (x := x2) (v := (x2 + (1 : Int32))) (L' := [some (.ref x0), some (.int x1), some (.int (x2 + (1 : Int32)))]) C dX9_changeFrom_22 rfl (congrArg (HAdd.hAdd _) xk_i_1) (Nat.le_of_ble_eq_true rfl) rfl ?_
      refine xw_goto (pc := 25) (tgt := 2) C dX9_changeFrom_25 (by decide) ?_
      obtain rfl := Option.some.inj hm
      refine xw_sub (pc := 2) _ ?_ (hc _ rfl)
      exact ⟨Or.inr rfl, Or.inr rfl, Or.inr rfl, trivial⟩
set_option maxHeartbeats 4000000 in
set_option maxRecDepth 100000 in
theorem wX9_changeFrom {l : Launch} {n sl : Nat} {h : XH} {x0 : Nat} {x1 : Int32} {o : Int32} (hm : fX9_changeFrom h x0 x1 = some o) : XM l yX9_changeFrom cX9_changeFrom 3 (some .int) 1 21 [.ref x0, .int x1] h n sl (some (.int o)) h n sl := by
  refine xm_of pnX9 [some (.ref x0), some (.int x1), none] 1 rfl (Nat.le_of_ble_eq_true rfl) ?_
  intro X hT C
  replace C : XOK X RX9 cX9_changeFrom 3 "changeFrom" (some .int) 1 21 := C
  obtain ⟨-, hN, hX⟩ := hT
  unfold fX9_changeFrom at hm
  refine xw_iconst (pc := 0) (v := 0) C dX9_changeFrom_0 xk_i_0 ?_
  refine xw_istore_n (pc := 1) (i := 2) (x := (0 : Int32)) (L' := [some (.ref x0), some (.int x1), some (.int (0 : Int32))]) C dX9_changeFrom_1 rfl (Nat.le_of_ble_eq_true rfl) rfl ?_
  obtain ⟨e8, q9, hm⟩ := xbind hm
  refine xw_sub (pc := 2) [some (.ref x0), some (.int x1), some (.int (0 : Int32))] ⟨Or.inr rfl, Or.inr rfl, Or.inr rfl, trivial⟩ ?_
  refine xloop_walk (fX9_changeFrom_B2 h x0 x1) (fX9_changeFrom_P2 X h x0 x1 n sl) (fX9_changeFrom_E2 X h x0 x1 n sl) (fun s' o' => fX9_changeFrom_B2_w C hN s' o') 5000 (0 : Int32) e8 q9 ?_
  show XW X 28 [none, none, some (.int e8)] [] h n sl
  refine xw_iload_n (pc := 28) (i := 2) (x := e8) C dX9_changeFrom_28 rfl rfl ?_
  obtain rfl := Option.some.inj hm
  exact xw_ireturn (pc := 29) C dX9_changeFrom_29 rfl hX
set_option maxHeartbeats 4000000 in
set_option maxRecDepth 100000 in
theorem wX9_clearText {l : Launch} {n sl : Nat} {h : XH} {x0 : Nat} {o : Int32 × XH} (hm : fX9_clearText h x0 = some o) : XM l yX9_clearText cX9_clearText 2 (some .int) 0 0 [.ref x0] h n sl (some (.int o.1)) o.2 n sl := by
  refine xm_of pnX9 [some (.ref x0), none] 1 rfl (Nat.le_of_ble_eq_true rfl) ?_
  intro X hT C
  replace C : XOK X RX9 cX9_clearText 2 "clearText" (some .int) 0 0 := C
  obtain ⟨-, hN, hX⟩ := hT
  unfold fX9_clearText at hm
  refine xw_aload_n (pc := 0) (i := 0) (x := x0) C dX9_clearText_0 rfl rfl ?_
  obtain ⟨v1, q2, hm⟩ := xbind hm
  refine xw_getI (pc := 1) C dX9_clearText_1 fl_X9_62 q2 ?_
  refine xw_istore_n (pc := 4) (i := 1) (x := v1) (L' := [some (.ref x0), some (.int v1)]) C dX9_clearText_4 rfl (Nat.le_of_ble_eq_true rfl) rfl ?_
  refine xw_aload_n (pc := 5) (i := 0) (x := x0) C dX9_clearText_5 rfl rfl ?_
  refine xw_iconst (pc := 6) (v := 0) C dX9_clearText_6 xk_i_0 ?_
  obtain ⟨h3, q4, hm⟩ := xbind hm
  refine xw_put (pc := 7) C dX9_clearText_7 fl_X9_62 q4 (fun _ => rfl) (fun _ => rfl) ?_
  refine xw_iload_n (pc := 10) (i := 1) (x := v1) C dX9_clearText_10 rfl rfl ?_
  obtain rfl := Option.some.inj hm
  exact xw_ireturn (pc := 11) C dX9_clearText_11 rfl hX
set_option maxHeartbeats 4000000 in
set_option maxRecDepth 100000 in
theorem wX9_flashes {l : Launch} {n sl : Nat} {h : XH} {x0 : Nat} {o : Int32} (hm : fX9_flashes h x0 = some o) : XM l yX9_flashes cX9_flashes 1 (some .int) 0 0 [.ref x0] h n sl (some (.int o)) h n sl := by
  refine xm_of pnX9 [some (.ref x0)] 0 rfl (Nat.le_of_ble_eq_true rfl) ?_
  intro X hT C
  replace C : XOK X RX9 cX9_flashes 1 "flashes" (some .int) 0 0 := C
  obtain ⟨-, hN, hX⟩ := hT
  unfold fX9_flashes at hm
  refine xw_sipush (pc := 0) (v := 1000) C dX9_flashes_0 xk_s_1000 ?_
  refine xw_aload_n (pc := 3) (i := 0) (x := x0) C dX9_flashes_3 rfl rfl ?_
  obtain ⟨v1, q2, hm⟩ := xbind hm
  refine xw_getR (pc := 4) C dX9_flashes_4 fl_X9_7 q2 ?_
  refine xw_bipush (pc := 7) (v := 74) C dX9_flashes_7 xk_b_74 ?_
  obtain ⟨v3, q4, hm⟩ := xbind hm
  refine xw_iaload (pc := 9) C dX9_flashes_9 q4 ?_
  refine xw_isub (pc := 10) C dX9_flashes_10 ?_
  refine xw_aload_n (pc := 11) (i := 0) (x := x0) C dX9_flashes_11 rfl rfl ?_
  obtain ⟨v5, q6, hm⟩ := xbind hm
  refine xw_getR (pc := 12) C dX9_flashes_12 fl_X9_7 q6 ?_
  refine xw_bipush (pc := 15) (v := 75) C dX9_flashes_15 xk_b_75 ?_
  obtain ⟨v7, q8, hm⟩ := xbind hm
  refine xw_iaload (pc := 17) C dX9_flashes_17 q8 ?_
  obtain ⟨q9, hm⟩ := xif_n hm
  refine xw_idiv (pc := 18) C dX9_flashes_18 q9 ?_
  refine xw_iconst (pc := 19) (v := 1) C dX9_flashes_19 xk_i_1 ?_
  refine xw_iadd (pc := 20) C dX9_flashes_20 ?_
  obtain rfl := Option.some.inj hm
  exact xw_ireturn (pc := 21) C dX9_flashes_21 rfl hX
set_option maxHeartbeats 4000000 in
set_option maxRecDepth 100000 in
theorem wX9_isOpen {l : Launch} {n sl : Nat} {h : XH} {x0 : Nat} {x1 : Int32} {o : Bool} (hm : fX9_isOpen h x0 x1 = some o) : XM l yX9_isOpen cX9_isOpen 4 (some .boolean) 1 22 [.ref x0, .int x1] h n sl (some (.int (xbi o))) h n sl := by
  refine xm_of pnX9 [some (.ref x0), some (.int x1), none, none] 2 rfl (Nat.le_of_ble_eq_true rfl) ?_
  intro X hT C
  replace C : XOK X RX9 cX9_isOpen 4 "isOpen" (some .boolean) 1 22 := C
  obtain ⟨-, hN, hX⟩ := hT
  unfold fX9_isOpen at hm
  refine xw_aload_n (pc := 0) (i := 0) (x := x0) C dX9_isOpen_0 rfl rfl ?_
  obtain ⟨v1, q2, hm⟩ := xbind hm
  refine xw_getR (pc := 1) C dX9_isOpen_1 fl_X9_7 q2 ?_
  refine xw_bipush (pc := 4) (v := 94) C dX9_isOpen_4 xk_b_94 ?_
  obtain ⟨v3, q4, hm⟩ := xbind hm
  refine xw_iaload (pc := 6) C dX9_isOpen_6 q4 ?_
  refine xw_istore_n (pc := 7) (i := 2) (x := v3) (L' := [some (.ref x0), some (.int x1), some (.int v3), none]) C dX9_isOpen_7 rfl (Nat.le_of_ble_eq_true rfl) rfl ?_
  refine xw_iload_n (pc := 8) (i := 2) (x := v3) C dX9_isOpen_8 rfl rfl ?_
  refine xw_aload_n (pc := 9) (i := 0) (x := x0) C dX9_isOpen_9 rfl rfl ?_
  obtain ⟨v5, q6, hm⟩ := xbind hm
  refine xw_getR (pc := 10) C dX9_isOpen_10 fl_X9_7 q6 ?_
  refine xw_bipush (pc := 13) (v := 96) C dX9_isOpen_13 xk_b_96 ?_
  obtain ⟨v7, q8, hm⟩ := xbind hm
  refine xw_iaload (pc := 15) C dX9_isOpen_15 q8 ?_
  refine xw_aload_n (pc := 16) (i := 0) (x := x0) C dX9_isOpen_16 rfl rfl ?_
  obtain ⟨v9, q10, hm⟩ := xbind hm
  refine xw_getR (pc := 17) C dX9_isOpen_17 fl_X9_7 q10 ?_
  refine xw_bipush (pc := 20) (v := 97) C dX9_isOpen_20 xk_b_97 ?_
  obtain ⟨v11, q12, hm⟩ := xbind hm
  refine xw_iaload (pc := 22) C dX9_isOpen_22 q12 ?_
  refine xw_iload_n (pc := 23) (i := 1) (x := x1) C dX9_isOpen_23 rfl rfl ?_
  refine xw_imul (pc := 24) C dX9_isOpen_24 ?_
  refine xw_iadd (pc := 25) C dX9_isOpen_25 ?_
  refine xw_iload_n (pc := 26) (i := 2) (x := v3) C dX9_isOpen_26 rfl rfl ?_
  obtain ⟨v13, q14, hm⟩ := xbind hm
  refine xw_callS1 (pc := 27) (As := [.int (v7 + (v11 * x1)), .int v3]) (st := [.int v3]) C dX9_isOpen_27 (wX9_modulo q14) dd_X9_modulo lk_X9_47 ds_X9_modulo rfl (Nat.le_of_ble_eq_true rfl) (Nat.le_of_ble_eq_true rfl) (Nat.le_of_ble_eq_true rfl) ⟨Nat.le_refl _, Nat.le_refl _⟩ hN ?_
  refine xw_isub (pc := 30) C dX9_isOpen_30 ?_
  refine xw_iload_n (pc := 31) (i := 2) (x := v3) C dX9_isOpen_31 rfl rfl ?_
  obtain ⟨q15, hm⟩ := xif_n hm
  refine xw_irem (pc := 32) C dX9_isOpen_32 q15 ?_
  refine xw_istore_n (pc := 33) (i := 3) (x := (xrem (v3 - v13) v3)) (L' := [some (.ref x0), some (.int x1), some (.int v3), some (.int (xrem (v3 - v13) v3))]) C dX9_isOpen_33 rfl (Nat.le_of_ble_eq_true rfl) rfl ?_
  refine xw_aload_n (pc := 34) (i := 0) (x := x0) C dX9_isOpen_34 rfl rfl ?_
  obtain ⟨v16, q17, hm⟩ := xbind hm
  refine xw_getR (pc := 35) C dX9_isOpen_35 fl_X9_7 q17 ?_
  refine xw_bipush (pc := 38) (v := 95) C dX9_isOpen_38 xk_b_95 ?_
  obtain ⟨v18, q19, hm⟩ := xbind hm
  refine xw_iaload (pc := 40) C dX9_isOpen_40 q19 ?_
  refine xw_iload_n (pc := 41) (i := 3) (x := (xrem (v3 - v13) v3)) C dX9_isOpen_41 rfl rfl ?_
  refine xw_ishr (pc := 42) C dX9_isOpen_42 ?_
  refine xw_iconst (pc := 43) (v := 1) C dX9_isOpen_43 xk_i_1 ?_
  refine xw_iand (pc := 44) C dX9_isOpen_44 ?_
  refine xw_iconst (pc := 45) (v := 1) C dX9_isOpen_45 xk_i_1 ?_
  refine xw_icmp_ne (pc := 46) (tgt := 53) C dX9_isOpen_46 (by decide) (fun q => ?_) (fun q => ?_)
  · replace hm := xif_f q hm
    refine xw_iconst (pc := 53) (v := 0) C dX9_isOpen_53 xk_i_0 ?_
    obtain rfl := Option.some.inj hm
    exact xw_zreturn (pc := 54) (v := xbi false) C dX9_isOpen_54 rfl (xbi_nar _) hX
  · replace hm := xif_t q hm
    refine xw_iconst (pc := 49) (v := 1) C dX9_isOpen_49 xk_i_1 ?_
    refine xw_goto (pc := 50) (tgt := 54) C dX9_isOpen_50 (by decide) ?_
    obtain rfl := Option.some.inj hm
    exact xw_zreturn (pc := 54) (v := xbi true) C dX9_isOpen_54 rfl (xbi_nar _) hX
def fX9_goesTo_P7 (X : XCtx) (x0 : Nat) (x1 : Int32) (n sl : Nat) (s : (XH × Int32 × Bool × Int32)) : Prop := XW X 7 [some (.ref x0), some (.int x1), some (.int s.2.1), some (.int (xbi s.2.2.1)), some (.int s.2.2.2), none] [] s.1 n sl
def fX9_goesTo_E7 (X : XCtx) (x0 : Nat) (x1 : Int32) (n sl : Nat) (e : ((XH × Int32) ⊕ (XH × Int32))) : Prop := match e with
  | .inl e => XW X 39 [none, none, some (.int e.2), none, none, none] [] e.1 n sl
  | .inr e => XW X 77 [none, none, some (.int e.2), none, none, none] [] e.1 n sl
set_option maxHeartbeats 4000000 in
set_option maxRecDepth 100000 in
theorem fX9_goesTo_J50_w {X : XCtx} (C : XOK X RX9 cX9_goesTo 6 "goesTo" (some .int) 2 45) {n sl : Nat} (hN : XN X n sl)  {h : XH} {x0 : Nat} {x1 : Int32} {x2 : Int32} {x4 : Int32} {x5 : Bool} {o : (XH × Int32 × Bool × Int32) ⊕ ((XH × Int32) ⊕ (XH × Int32))} (hm : fX9_goesTo_J50 h x0 x1 x2 x4 x5 = some o) (hc : ∀ s', o = .inl s' → fX9_goesTo_P7 X x0 x1 n sl s') (he : ∀ e', o = .inr e' → fX9_goesTo_E7 X x0 x1 n sl e') : XW X 50 [some (.ref x0), some (.int x1), some (.int x2), none, some (.int x4), some (.int (xbi x5))] [] h n sl := by
  unfold fX9_goesTo_J50 at hm
  refine xw_aload_n (pc := 50) (i := 0) (x := x0) C dX9_goesTo_50 rfl rfl ?_
  refine xw_iload (pc := 51) (i := 5) (x := (xbi x5)) C dX9_goesTo_51 rfl ?_
  refine xw_if_eqZ (pc := 53) (b := x5) (tgt := 61) C dX9_goesTo_53 (by decide) (fun q => ?_) (fun q => ?_)
  · replace hm := xif_f q hm
    refine xw_aload_n (pc := 61) (i := 0) (x := x0) C dX9_goesTo_61 rfl rfl ?_
    obtain ⟨v4, q5, hm⟩ := xbind hm
    refine xw_getI (pc := 62) C dX9_goesTo_62 fl_X9_172 q5 ?_
    obtain ⟨h6, q7, hm⟩ := xbind hm
    refine xw_put (pc := 65) C dX9_goesTo_65 fl_X9_172 q7 (fun _ => rfl) (fun _ => rfl) ?_
    refine xw_iload (pc := 68) (i := 5) (x := (xbi x5)) C dX9_goesTo_68 rfl ?_
    refine xw_istore_n (pc := 70) (i := 3) (x := (xbi x5)) (L' := [some (.ref x0), some (.int x1), some (.int x2), some (.int (xbi x5)), some (.int x4), some (.int (xbi x5))]) C dX9_goesTo_70 rfl (Nat.le_of_ble_eq_true rfl) rfl ?_
    refine xw_iinc (pc := 71) (i := 4) (x := x4) (v := (x4 + (1 : Int32))) (L' := [some (.ref x0), some (.int x1), some (.int x2), some (.int (xbi x5)), some (.int (x4 + (1 : Int32))), some (.int (xbi x5))]) C dX9_goesTo_71 rfl (congrArg (HAdd.hAdd _) xk_i_1) (Nat.le_of_ble_eq_true rfl) rfl ?_
    refine xw_goto (pc := 74) (tgt := 7) C dX9_goesTo_74 (by decide) ?_
    obtain rfl := Option.some.inj hm
    refine xw_sub (pc := 7) _ ?_ (hc _ rfl)
    exact ⟨Or.inr rfl, Or.inr rfl, Or.inr rfl, Or.inr rfl, Or.inr rfl, Or.inl rfl, trivial⟩
  · replace hm := xif_t q hm
    refine xw_iload (pc := 56) (i := 4) (x := x4) C dX9_goesTo_56 rfl ?_
    refine xw_goto (pc := 58) (tgt := 65) C dX9_goesTo_58 (by decide) ?_
    obtain ⟨h8, q9, hm⟩ := xbind hm
    refine xw_put (pc := 65) C dX9_goesTo_65 fl_X9_172 q9 (fun _ => rfl) (fun _ => rfl) ?_
    refine xw_iload (pc := 68) (i := 5) (x := (xbi x5)) C dX9_goesTo_68 rfl ?_
    refine xw_istore_n (pc := 70) (i := 3) (x := (xbi x5)) (L' := [some (.ref x0), some (.int x1), some (.int x2), some (.int (xbi x5)), some (.int x4), some (.int (xbi x5))]) C dX9_goesTo_70 rfl (Nat.le_of_ble_eq_true rfl) rfl ?_
    refine xw_iinc (pc := 71) (i := 4) (x := x4) (v := (x4 + (1 : Int32))) (L' := [some (.ref x0), some (.int x1), some (.int x2), some (.int (xbi x5)), some (.int (x4 + (1 : Int32))), some (.int (xbi x5))]) C dX9_goesTo_71 rfl (congrArg (HAdd.hAdd _) xk_i_1) (Nat.le_of_ble_eq_true rfl) rfl ?_
    refine xw_goto (pc := 74) (tgt := 7) C dX9_goesTo_74 (by decide) ?_
    obtain rfl := Option.some.inj hm
    refine xw_sub (pc := 7) _ ?_ (hc _ rfl)
    exact ⟨Or.inr rfl, Or.inr rfl, Or.inr rfl, Or.inr rfl, Or.inr rfl, Or.inl rfl, trivial⟩
set_option maxHeartbeats 4000000 in
set_option maxRecDepth 100000 in
theorem fX9_goesTo_B7_w {X : XCtx} (C : XOK X RX9 cX9_goesTo 6 "goesTo" (some .int) 2 45) {n sl : Nat} (hN : XN X n sl) {x0 : Nat} {x1 : Int32} (s : (XH × Int32 × Bool × Int32)) (o : (XH × Int32 × Bool × Int32) ⊕ ((XH × Int32) ⊕ (XH × Int32))) (hm : fX9_goesTo_B7 x0 x1 s = some o) (hc : ∀ s', o = .inl s' → fX9_goesTo_P7 X x0 x1 n sl s') (he : ∀ e', o = .inr e' → fX9_goesTo_E7 X x0 x1 n sl e') : fX9_goesTo_P7 X x0 x1 n sl s := by
  obtain ⟨h, x2, x3, x4⟩ := s
  show XW X 7 [some (.ref x0), some (.int x1), some (.int x2), some (.int (xbi x3)), some (.int x4), none] [] h n sl
  replace hm : fX9_goesTo_b7 x0 x1 h x2 x3 x4 = some o := hm
  unfold fX9_goesTo_b7 at hm
  refine xw_iload (pc := 7) (i := 4) (x := x4) C dX9_goesTo_7 rfl ?_
  refine xw_sipush (pc := 9) (v := 1000) C dX9_goesTo_9 xk_s_1000 ?_
  refine xw_icmp_gt (pc := 12) (tgt := 77) C dX9_goesTo_12 (by decide) (fun q => ?_) (fun q => ?_)
  · replace hm := xif_t q hm
    obtain rfl := Option.some.inj hm
    refine xw_sub (pc := 77) _ ?_ (he _ rfl)
    exact ⟨Or.inl rfl, Or.inl rfl, Or.inr rfl, Or.inl rfl, Or.inl rfl, Or.inl rfl, trivial⟩
  · replace hm := xif_f q hm
    refine xw_aload_n (pc := 15) (i := 0) (x := x0) C dX9_goesTo_15 rfl rfl ?_
    refine xw_iload (pc := 16) (i := 4) (x := x4) C dX9_goesTo_16 rfl ?_
    obtain ⟨_, q1, hm⟩ := xbind hm
    obtain ⟨v2, q3, hm⟩ := xbind hm
    refine xw_callV1 (pc := 18) (As := [.int x4]) (st := []) C dX9_goesTo_18 (wX9_isOpen q3) dd_X9_isOpen lk_X9_166 dv_X9_isOpen (xco_spec q1) rfl (Nat.le_of_ble_eq_true rfl) (Nat.le_of_ble_eq_true rfl) (Nat.le_of_ble_eq_true rfl) ⟨Nat.le_refl _, Nat.le_refl _⟩ hN ?_
    refine xw_istore (pc := 21) (i := 5) (x := (xbi v2)) (L' := [some (.ref x0), some (.int x1), some (.int x2), some (.int (xbi x3)), some (.int x4), some (.int (xbi v2))]) C dX9_goesTo_21 (Nat.le_of_ble_eq_true rfl) rfl ?_
    refine xw_iload (pc := 23) (i := 5) (x := (xbi v2)) C dX9_goesTo_23 rfl ?_
    refine xw_if_eqZ (pc := 25) (b := v2) (tgt := 50) C dX9_goesTo_25 (by decide) (fun q => ?_) (fun q => ?_)
    · replace hm := xif_f q hm
      exact xw_sub (pc := 50) [some (.ref x0), some (.int x1), some (.int x2), none, some (.int x4), some (.int (xbi v2))] ⟨Or.inr rfl, Or.inr rfl, Or.inr rfl, Or.inl rfl, Or.inr rfl, Or.inr rfl, trivial⟩ (fX9_goesTo_J50_w C hN hm hc he)
    · replace hm := xif_t q hm
      refine xw_iload_n (pc := 28) (i := 3) (x := (xbi x3)) C dX9_goesTo_28 rfl rfl ?_
      refine xw_if_neZ (pc := 29) (b := x3) (tgt := 50) C dX9_goesTo_29 (by decide) (fun q => ?_) (fun q => ?_)
      · replace hm := xif_t q hm
        exact xw_sub (pc := 50) [some (.ref x0), some (.int x1), some (.int x2), none, some (.int x4), some (.int (xbi v2))] ⟨Or.inr rfl, Or.inr rfl, Or.inr rfl, Or.inl rfl, Or.inr rfl, Or.inr rfl, trivial⟩ (fX9_goesTo_J50_w C hN hm hc he)
      · replace hm := xif_f q hm
        refine xw_iload_n (pc := 32) (i := 2) (x := x2) C dX9_goesTo_32 rfl rfl ?_
        refine xw_iconst (pc := 33) (v := 1) C dX9_goesTo_33 xk_i_1 ?_
        refine xw_isub (pc := 34) C dX9_goesTo_34 ?_
        refine xw_iload_n (pc := 35) (i := 1) (x := x1) C dX9_goesTo_35 rfl rfl ?_
        refine xw_icmp_ne (pc := 36) (tgt := 41) C dX9_goesTo_36 (by decide) (fun q => ?_) (fun q => ?_)
        · replace hm := xif_f q hm
          refine xw_iinc (pc := 41) (i := 2) (x := x2) (v := (x2 + (1 : Int32))) (L' := [some (.ref x0), some (.int x1), some (.int (x2 + (1 : Int32))), some (.int (xbi x3)), some (.int x4), some (.int (xbi v2))]) C dX9_goesTo_41 rfl (congrArg (HAdd.hAdd _) xk_i_1) (Nat.le_of_ble_eq_true rfl) rfl ?_
          refine xw_aload_n (pc := 44) (i := 0) (x := x0) C dX9_goesTo_44 rfl rfl ?_
          refine xw_iload (pc := 45) (i := 4) (x := x4) C dX9_goesTo_45 rfl ?_
          obtain ⟨h10, q11, hm⟩ := xbind hm
          refine xw_put (pc := 47) C dX9_goesTo_47 fl_X9_169 q11 (fun _ => rfl) (fun _ => rfl) ?_
          exact xw_sub (pc := 50) [some (.ref x0), some (.int x1), some (.int (x2 + (1 : Int32))), none, some (.int x4), some (.int (xbi v2))] ⟨Or.inr rfl, Or.inr rfl, Or.inr rfl, Or.inl rfl, Or.inr rfl, Or.inr rfl, trivial⟩ (fX9_goesTo_J50_w C hN hm hc he)
        · replace hm := xif_t q hm
          obtain rfl := Option.some.inj hm
          refine xw_sub (pc := 39) _ ?_ (he _ rfl)
          exact ⟨Or.inl rfl, Or.inl rfl, Or.inr rfl, Or.inl rfl, Or.inl rfl, Or.inl rfl, trivial⟩
set_option maxHeartbeats 4000000 in
set_option maxRecDepth 100000 in
theorem wX9_goesTo {l : Launch} {n sl : Nat} {h : XH} {x0 : Nat} {x1 : Int32} {o : Int32 × XH} (hm : fX9_goesTo h x0 x1 = some o) : XM l yX9_goesTo cX9_goesTo 6 (some .int) 2 45 [.ref x0, .int x1] h n sl (some (.int o.1)) o.2 n sl := by
  refine xm_of pnX9 [some (.ref x0), some (.int x1), none, none, none, none] 4 rfl (Nat.le_of_ble_eq_true rfl) ?_
  intro X hT C
  replace C : XOK X RX9 cX9_goesTo 6 "goesTo" (some .int) 2 45 := C
  obtain ⟨-, hN, hX⟩ := hT
  unfold fX9_goesTo at hm
  refine xw_iconst (pc := 0) (v := 0) C dX9_goesTo_0 xk_i_0 ?_
  refine xw_istore_n (pc := 1) (i := 2) (x := (0 : Int32)) (L' := [some (.ref x0), some (.int x1), some (.int (0 : Int32)), none, none, none]) C dX9_goesTo_1 rfl (Nat.le_of_ble_eq_true rfl) rfl ?_
  refine xw_iconst (pc := 2) (v := 0) C dX9_goesTo_2 xk_i_0 ?_
  refine xw_istore_n (pc := 3) (i := 3) (x := (0 : Int32)) (L' := [some (.ref x0), some (.int x1), some (.int (0 : Int32)), some (.int (0 : Int32)), none, none]) C dX9_goesTo_3 rfl (Nat.le_of_ble_eq_true rfl) rfl ?_
  refine xw_iconst (pc := 4) (v := 0) C dX9_goesTo_4 xk_i_0 ?_
  refine xw_istore (pc := 5) (i := 4) (x := (0 : Int32)) (L' := [some (.ref x0), some (.int x1), some (.int (0 : Int32)), some (.int (0 : Int32)), some (.int (0 : Int32)), none]) C dX9_goesTo_5 (Nat.le_of_ble_eq_true rfl) rfl ?_
  obtain ⟨e12, q13, hm⟩ := xbind hm
  refine xw_sub (pc := 7) [some (.ref x0), some (.int x1), some (.int (0 : Int32)), some (.int (xbi false)), some (.int (0 : Int32)), none] ⟨Or.inr rfl, Or.inr rfl, Or.inr rfl, Or.inr rfl, Or.inr rfl, Or.inl rfl, trivial⟩ ?_
  refine xloop_walk (fX9_goesTo_B7 x0 x1) (fX9_goesTo_P7 X x0 x1 n sl) (fX9_goesTo_E7 X x0 x1 n sl) (fun s' o' => fX9_goesTo_B7_w C hN s' o') 5000 (h, (0 : Int32), false, (0 : Int32)) e12 q13 ?_
  rcases e12 with e12 | e12
  · dsimp only at hm
    show XW X 39 [none, none, some (.int e12.2), none, none, none] [] e12.1 n sl
    refine xw_iload_n (pc := 39) (i := 2) (x := e12.2) C dX9_goesTo_39 rfl rfl ?_
    obtain rfl := Option.some.inj hm
    exact xw_ireturn (pc := 40) C dX9_goesTo_40 rfl hX
  · dsimp only at hm
    show XW X 77 [none, none, some (.int e12.2), none, none, none] [] e12.1 n sl
    refine xw_iload_n (pc := 77) (i := 2) (x := e12.2) C dX9_goesTo_77 rfl rfl ?_
    obtain rfl := Option.some.inj hm
    exact xw_ireturn (pc := 78) C dX9_goesTo_78 rfl hX
def fX9_marks_P4 (X : XCtx) (h : XH) (x0 : Nat) (n sl : Nat) (s : (Int32 × Int32)) : Prop := XW X 4 [some (.ref x0), some (.int s.1), some (.int s.2)] [] h n sl
def fX9_marks_E4 (X : XCtx) (h : XH) (x0 : Nat) (n sl : Nat) (e : Int32) : Prop := XW X 37 [none, some (.int e), none] [] h n sl
set_option maxHeartbeats 4000000 in
set_option maxRecDepth 100000 in
theorem fX9_marks_B4_w {X : XCtx} (C : XOK X RX9 cX9_marks 3 "marks" (some .int) 1 20) {n sl : Nat} (hN : XN X n sl) {h : XH} {x0 : Nat} (s : (Int32 × Int32)) (o : (Int32 × Int32) ⊕ Int32) (hm : fX9_marks_B4 h x0 s = some o) (hc : ∀ s', o = .inl s' → fX9_marks_P4 X h x0 n sl s') (he : ∀ e', o = .inr e' → fX9_marks_E4 X h x0 n sl e') : fX9_marks_P4 X h x0 n sl s := by
  obtain ⟨x1, x2⟩ := s
  show XW X 4 [some (.ref x0), some (.int x1), some (.int x2)] [] h n sl
  replace hm : fX9_marks_b4 h x0 x1 x2 = some o := hm
  unfold fX9_marks_b4 at hm
  refine xw_iload_n (pc := 4) (i := 2) (x := x2) C dX9_marks_4 rfl rfl ?_
  refine xw_aload_n (pc := 5) (i := 0) (x := x0) C dX9_marks_5 rfl rfl ?_
  obtain ⟨_, q1, hm⟩ := xbind hm
  obtain ⟨v2, q3, hm⟩ := xbind hm
  refine xw_callV1 (pc := 6) (As := []) (st := [.int x2]) C dX9_marks_6 (wX9_cells q3) dd_X9_cells lk_X9_37 dv_X9_cells (xco_spec q1) rfl (Nat.le_of_ble_eq_true rfl) (Nat.le_of_ble_eq_true rfl) (Nat.le_of_ble_eq_true rfl) ⟨Nat.le_refl _, Nat.le_refl _⟩ hN ?_
  refine xw_icmp_ge (pc := 9) (tgt := 37) C dX9_marks_9 (by decide) (fun q => ?_) (fun q => ?_)
  · replace hm := xif_t q hm
    obtain rfl := Option.some.inj hm
    refine xw_sub (pc := 37) _ ?_ (he _ rfl)
    exact ⟨Or.inl rfl, Or.inr rfl, Or.inl rfl, trivial⟩
  · replace hm := xif_f q hm
    refine xw_iload_n (pc := 12) (i := 1) (x := x1) C dX9_marks_12 rfl rfl ?_
    refine xw_aload_n (pc := 13) (i := 0) (x := x0) C dX9_marks_13 rfl rfl ?_
    obtain ⟨v4, q5, hm⟩ := xbind hm
    refine xw_getR (pc := 14) C dX9_marks_14 fl_X9_7 q5 ?_
    refine xw_iconst (pc := 17) (v := 1) C dX9_marks_17 xk_i_1 ?_
    refine xw_iload_n (pc := 18) (i := 2) (x := x2) C dX9_marks_18 rfl rfl ?_
    refine xw_iadd (pc := 19) C dX9_marks_19 ?_
    obtain ⟨v6, q7, hm⟩ := xbind hm
    refine xw_iaload (pc := 20) C dX9_marks_20 q7 ?_
    refine xw_if_le (pc := 21) (tgt := 28) C dX9_marks_21 (by decide) (fun q => ?_) (fun q => ?_)
    · replace hm := xif_t q hm
      refine xw_iconst (pc := 28) (v := 0) C dX9_marks_28 xk_i_0 ?_
      refine xw_iadd (pc := 29) C dX9_marks_29 ?_
      refine xw_istore_n (pc := 30) (i := 1) (x := (x1 + (0 : Int32))) (L' := [some (.ref x0), some (.int (x1 + (0 : Int32))), some (.int x2)]) C dX9_marks_30 rfl (Nat.le_of_ble_eq_true rfl) rfl ?_
      refine xw_iinc (pc := 31) (i := 2) (x := x2) (v := (x2 + (1 : Int32))) (L' := [some (.ref x0), some (.int (x1 + (0 : Int32))), some (.int (x2 + (1 : Int32)))]) C dX9_marks_31 rfl (congrArg (HAdd.hAdd _) xk_i_1) (Nat.le_of_ble_eq_true rfl) rfl ?_
      refine xw_goto (pc := 34) (tgt := 4) C dX9_marks_34 (by decide) ?_
      obtain rfl := Option.some.inj hm
      refine xw_sub (pc := 4) _ ?_ (hc _ rfl)
      exact ⟨Or.inr rfl, Or.inr rfl, Or.inr rfl, trivial⟩
    · replace hm := xif_f q hm
      refine xw_iconst (pc := 24) (v := 1) C dX9_marks_24 xk_i_1 ?_
      refine xw_goto (pc := 25) (tgt := 29) C dX9_marks_25 (by decide) ?_
      refine xw_iadd (pc := 29) C dX9_marks_29 ?_
      refine xw_istore_n (pc := 30) (i := 1) (x := (x1 + (1 : Int32))) (L' := [some (.ref x0), some (.int (x1 + (1 : Int32))), some (.int x2)]) C dX9_marks_30 rfl (Nat.le_of_ble_eq_true rfl) rfl ?_
      refine xw_iinc (pc := 31) (i := 2) (x := x2) (v := (x2 + (1 : Int32))) (L' := [some (.ref x0), some (.int (x1 + (1 : Int32))), some (.int (x2 + (1 : Int32)))]) C dX9_marks_31 rfl (congrArg (HAdd.hAdd _) xk_i_1) (Nat.le_of_ble_eq_true rfl) rfl ?_
      refine xw_goto (pc := 34) (tgt := 4) C dX9_marks_34 (by decide) ?_
      obtain rfl := Option.some.inj hm
      refine xw_sub (pc := 4) _ ?_ (hc _ rfl)
      exact ⟨Or.inr rfl, Or.inr rfl, Or.inr rfl, trivial⟩
set_option maxHeartbeats 4000000 in
set_option maxRecDepth 100000 in
theorem wX9_marks {l : Launch} {n sl : Nat} {h : XH} {x0 : Nat} {o : Int32} (hm : fX9_marks h x0 = some o) : XM l yX9_marks cX9_marks 3 (some .int) 1 20 [.ref x0] h n sl (some (.int o)) h n sl := by
  refine xm_of pnX9 [some (.ref x0), none, none] 2 rfl (Nat.le_of_ble_eq_true rfl) ?_
  intro X hT C
  replace C : XOK X RX9 cX9_marks 3 "marks" (some .int) 1 20 := C
  obtain ⟨-, hN, hX⟩ := hT
  unfold fX9_marks at hm
  refine xw_iconst (pc := 0) (v := 0) C dX9_marks_0 xk_i_0 ?_
  refine xw_istore_n (pc := 1) (i := 1) (x := (0 : Int32)) (L' := [some (.ref x0), some (.int (0 : Int32)), none]) C dX9_marks_1 rfl (Nat.le_of_ble_eq_true rfl) rfl ?_
  refine xw_iconst (pc := 2) (v := 0) C dX9_marks_2 xk_i_0 ?_
  refine xw_istore_n (pc := 3) (i := 2) (x := (0 : Int32)) (L' := [some (.ref x0), some (.int (0 : Int32)), some (.int (0 : Int32))]) C dX9_marks_3 rfl (Nat.le_of_ble_eq_true rfl) rfl ?_
  obtain ⟨e8, q9, hm⟩ := xbind hm
  refine xw_sub (pc := 4) [some (.ref x0), some (.int (0 : Int32)), some (.int (0 : Int32))] ⟨Or.inr rfl, Or.inr rfl, Or.inr rfl, trivial⟩ ?_
  refine xloop_walk (fX9_marks_B4 h x0) (fX9_marks_P4 X h x0 n sl) (fX9_marks_E4 X h x0 n sl) (fun s' o' => fX9_marks_B4_w C hN s' o') 5000 ((0 : Int32), (0 : Int32)) e8 q9 ?_
  show XW X 37 [none, some (.int e8), none] [] h n sl
  refine xw_iload_n (pc := 37) (i := 1) (x := e8) C dX9_marks_37 rfl rfl ?_
  obtain rfl := Option.some.inj hm
  exact xw_ireturn (pc := 38) C dX9_marks_38 rfl hX
set_option maxHeartbeats 4000000 in
set_option maxRecDepth 100000 in
theorem fX9_count_J103_w {X : XCtx} (C : XOK X RX9 cX9_count 2 "count" (some .int) 3 70) {n sl : Nat} (hN : XN X n sl)  {h : XH} {x0 : Nat} {x1 : Int32} {o : Int32 × XH} (hm : fX9_count_J103 h x0 x1 = some o) (hX : XR X (some (.int o.1)) o.2 n sl) : XW X 103 [some (.ref x0), some (.int x1)] [] h n sl := by
  unfold fX9_count_J103 at hm
  refine xw_aload_n (pc := 103) (i := 0) (x := x0) C dX9_count_103 rfl rfl ?_
  obtain ⟨v28, q29, hm⟩ := xbind hm
  refine xw_getR (pc := 104) C dX9_count_104 fl_X9_7 q29 ?_
  refine xw_bipush (pc := 107) (v := 61) C dX9_count_107 xk_b_61 ?_
  refine xw_iload_n (pc := 109) (i := 1) (x := x1) C dX9_count_109 rfl rfl ?_
  refine xw_iadd (pc := 110) C dX9_count_110 ?_
  refine xw_iconst (pc := 111) (v := 3) C dX9_count_111 xk_i_3 ?_
  refine xw_isub (pc := 112) C dX9_count_112 ?_
  obtain ⟨v30, q31, hm⟩ := xbind hm
  refine xw_iaload (pc := 113) C dX9_count_113 q31 ?_
  obtain rfl := Option.some.inj hm
  exact xw_ireturn (pc := 114) C dX9_count_114 rfl hX
set_option maxHeartbeats 4000000 in
set_option maxRecDepth 100000 in
theorem fX9_count_J115_w {X : XCtx} (C : XOK X RX9 cX9_count 2 "count" (some .int) 3 70) {n sl : Nat} (hN : XN X n sl)  {h : XH} {x0 : Nat} {x1 : Int32} {o : Int32 × XH} (hm : fX9_count_J115 h x0 x1 = some o) (hX : XR X (some (.int o.1)) o.2 n sl) : XW X 115 [some (.ref x0), some (.int x1)] [] h n sl := by
  unfold fX9_count_J115 at hm
  refine xw_aload_n (pc := 115) (i := 0) (x := x0) C dX9_count_115 rfl rfl ?_
  obtain ⟨v32, q33, hm⟩ := xbind hm
  refine xw_getR (pc := 116) C dX9_count_116 fl_X9_7 q33 ?_
  refine xw_bipush (pc := 119) (v := 74) C dX9_count_119 xk_b_74 ?_
  refine xw_iload_n (pc := 121) (i := 1) (x := x1) C dX9_count_121 rfl rfl ?_
  refine xw_iadd (pc := 122) C dX9_count_122 ?_
  refine xw_bipush (pc := 123) (v := 6) C dX9_count_123 xk_b_6 ?_
  refine xw_isub (pc := 125) C dX9_count_125 ?_
  obtain ⟨v34, q35, hm⟩ := xbind hm
  refine xw_iaload (pc := 126) C dX9_count_126 q35 ?_
  obtain rfl := Option.some.inj hm
  exact xw_ireturn (pc := 127) C dX9_count_127 rfl hX
set_option maxHeartbeats 4000000 in
set_option maxRecDepth 100000 in
theorem fX9_count_J141_w {X : XCtx} (C : XOK X RX9 cX9_count 2 "count" (some .int) 3 70) {n sl : Nat} (hN : XN X n sl)  {h : XH} {x0 : Nat} {x1 : Int32} {o : Int32 × XH} (hm : fX9_count_J141 h x0 x1 = some o) (hX : XR X (some (.int o.1)) o.2 n sl) : XW X 141 [some (.ref x0), some (.int x1)] [] h n sl := by
  unfold fX9_count_J141 at hm
  refine xw_aload_n (pc := 141) (i := 0) (x := x0) C dX9_count_141 rfl rfl ?_
  obtain ⟨v43, q44, hm⟩ := xbind hm
  refine xw_getR (pc := 142) C dX9_count_142 fl_X9_7 q44 ?_
  refine xw_bipush (pc := 145) (v := 93) C dX9_count_145 xk_b_93 ?_
  refine xw_iload_n (pc := 147) (i := 1) (x := x1) C dX9_count_147 rfl rfl ?_
  refine xw_iadd (pc := 148) C dX9_count_148 ?_
  refine xw_bipush (pc := 149) (v := 10) C dX9_count_149 xk_b_10 ?_
  refine xw_isub (pc := 151) C dX9_count_151 ?_
  obtain ⟨v45, q46, hm⟩ := xbind hm
  refine xw_iaload (pc := 152) C dX9_count_152 q46 ?_
  obtain rfl := Option.some.inj hm
  exact xw_ireturn (pc := 153) C dX9_count_153 rfl hX
set_option maxHeartbeats 4000000 in
set_option maxRecDepth 100000 in
theorem wX9_count {l : Launch} {n sl : Nat} {h : XH} {x0 : Nat} {x1 : Int32} {o : Int32 × XH} (hm : fX9_count h x0 x1 = some o) : XM l yX9_count cX9_count 2 (some .int) 3 70 [.ref x0, .int x1] h n sl (some (.int o.1)) o.2 n sl := by
  refine xm_of pnX9 [some (.ref x0), some (.int x1)] 0 rfl (Nat.le_of_ble_eq_true rfl) ?_
  intro X hT C
  replace C : XOK X RX9 cX9_count 2 "count" (some .int) 3 70 := C
  obtain ⟨-, hN, hX⟩ := hT
  unfold fX9_count at hm
  refine xw_iload_n (pc := 0) (i := 1) (x := x1) C dX9_count_0 rfl rfl ?_
  by_cases q1 : x1 = 0
  · replace hm := xif_t q1 hm
    refine xw_tabIn (pc := 1) (v := 0) (off := 87) (tgt := 88) C dX9_count_1 q1 (by decide) (by decide) (by decide) (by decide) ?_
    refine xw_aload_n (pc := 88) (i := 0) (x := x0) C dX9_count_88 rfl rfl ?_
    obtain ⟨_, q19, hm⟩ := xbind hm
    obtain ⟨v20, q21, hm⟩ := xbind hm
    refine xw_callV1 (pc := 89) (As := []) (st := []) C dX9_count_89 (wX9_cells q21) dd_X9_cells lk_X9_37 dv_X9_cells (xco_spec q19) rfl (Nat.le_of_ble_eq_true rfl) (Nat.le_of_ble_eq_true rfl) (Nat.le_of_ble_eq_true rfl) ⟨Nat.le_refl _, Nat.le_refl _⟩ hN ?_
    obtain rfl := Option.some.inj hm
    exact xw_ireturn (pc := 92) C dX9_count_92 rfl hX
  · replace hm := xif_f q1 hm
    by_cases q2 : x1 = 1
    · replace hm := xif_t q2 hm
      refine xw_tabIn (pc := 1) (v := 1) (off := 92) (tgt := 93) C dX9_count_1 q2 (by decide) (by decide) (by decide) (by decide) ?_
      refine xw_aload_n (pc := 93) (i := 0) (x := x0) C dX9_count_93 rfl rfl ?_
      obtain ⟨_, q22, hm⟩ := xbind hm
      obtain ⟨v23, q24, hm⟩ := xbind hm
      refine xw_callV1 (pc := 94) (As := []) (st := []) C dX9_count_94 (wX9_marks q24) dd_X9_marks lk_X9_187 dv_X9_marks (xco_spec q22) rfl (Nat.le_of_ble_eq_true rfl) (Nat.le_of_ble_eq_true rfl) (Nat.le_of_ble_eq_true rfl) ⟨Nat.le_refl _, Nat.le_refl _⟩ hN ?_
      obtain rfl := Option.some.inj hm
      exact xw_ireturn (pc := 97) C dX9_count_97 rfl hX
    · replace hm := xif_f q2 hm
      by_cases q3 : x1 = 2
      · replace hm := xif_t q3 hm
        refine xw_tabIn (pc := 1) (v := 2) (off := 97) (tgt := 98) C dX9_count_1 q3 (by decide) (by decide) (by decide) (by decide) ?_
        refine xw_aload_n (pc := 98) (i := 0) (x := x0) C dX9_count_98 rfl rfl ?_
        obtain ⟨_, q25, hm⟩ := xbind hm
        obtain ⟨v26, q27, hm⟩ := xbind hm
        refine xw_callV1 (pc := 99) (As := []) (st := []) C dX9_count_99 (wX9_measure q27) dd_X9_measure lk_X9_41 dv_X9_measure (xco_spec q25) rfl (Nat.le_of_ble_eq_true rfl) (Nat.le_of_ble_eq_true rfl) (Nat.le_of_ble_eq_true rfl) ⟨Nat.le_refl _, Nat.le_refl _⟩ hN ?_
        obtain rfl := Option.some.inj hm
        exact xw_ireturn (pc := 102) C dX9_count_102 rfl hX
      · replace hm := xif_f q3 hm
        by_cases q4 : x1 = 3
        · replace hm := xif_t q4 hm
          refine xw_tabIn (pc := 1) (v := 3) (off := 102) (tgt := 103) C dX9_count_1 q4 (by decide) (by decide) (by decide) (by decide) ?_
          exact xw_sub (pc := 103) [some (.ref x0), some (.int x1)] ⟨Or.inr rfl, Or.inr rfl, trivial⟩ (fX9_count_J103_w C hN hm hX)
        · replace hm := xif_f q4 hm
          by_cases q5 : x1 = 4
          · replace hm := xif_t q5 hm
            refine xw_tabIn (pc := 1) (v := 4) (off := 102) (tgt := 103) C dX9_count_1 q5 (by decide) (by decide) (by decide) (by decide) ?_
            exact xw_sub (pc := 103) [some (.ref x0), some (.int x1)] ⟨Or.inr rfl, Or.inr rfl, trivial⟩ (fX9_count_J103_w C hN hm hX)
          · replace hm := xif_f q5 hm
            by_cases q6 : x1 = 5
            · replace hm := xif_t q6 hm
              refine xw_tabIn (pc := 1) (v := 5) (off := 102) (tgt := 103) C dX9_count_1 q6 (by decide) (by decide) (by decide) (by decide) ?_
              exact xw_sub (pc := 103) [some (.ref x0), some (.int x1)] ⟨Or.inr rfl, Or.inr rfl, trivial⟩ (fX9_count_J103_w C hN hm hX)
            · replace hm := xif_f q6 hm
              by_cases q7 : x1 = 6
              · replace hm := xif_t q7 hm
                refine xw_tabIn (pc := 1) (v := 6) (off := 114) (tgt := 115) C dX9_count_1 q7 (by decide) (by decide) (by decide) (by decide) ?_
                exact xw_sub (pc := 115) [some (.ref x0), some (.int x1)] ⟨Or.inr rfl, Or.inr rfl, trivial⟩ (fX9_count_J115_w C hN hm hX)
              · replace hm := xif_f q7 hm
                by_cases q8 : x1 = 7
                · replace hm := xif_t q8 hm
                  refine xw_tabIn (pc := 1) (v := 7) (off := 114) (tgt := 115) C dX9_count_1 q8 (by decide) (by decide) (by decide) (by decide) ?_
                  exact xw_sub (pc := 115) [some (.ref x0), some (.int x1)] ⟨Or.inr rfl, Or.inr rfl, trivial⟩ (fX9_count_J115_w C hN hm hX)
                · replace hm := xif_f q8 hm
                  by_cases q9 : x1 = 8
                  · replace hm := xif_t q9 hm
                    refine xw_tabIn (pc := 1) (v := 8) (off := 127) (tgt := 128) C dX9_count_1 q9 (by decide) (by decide) (by decide) (by decide) ?_
                    refine xw_aload_n (pc := 128) (i := 0) (x := x0) C dX9_count_128 rfl rfl ?_
                    obtain ⟨_, q36, hm⟩ := xbind hm
                    obtain ⟨v37, q38, hm⟩ := xbind hm
                    refine xw_callV1 (pc := 129) (As := []) (st := []) C dX9_count_129 (wX9_flashes q38) dd_X9_flashes lk_X9_126 dv_X9_flashes (xco_spec q36) rfl (Nat.le_of_ble_eq_true rfl) (Nat.le_of_ble_eq_true rfl) (Nat.le_of_ble_eq_true rfl) ⟨Nat.le_refl _, Nat.le_refl _⟩ hN ?_
                    obtain rfl := Option.some.inj hm
                    exact xw_ireturn (pc := 132) C dX9_count_132 rfl hX
                  · replace hm := xif_f q9 hm
                    by_cases q10 : x1 = 9
                    · replace hm := xif_t q10 hm
                      refine xw_tabIn (pc := 1) (v := 9) (off := 132) (tgt := 133) C dX9_count_1 q10 (by decide) (by decide) (by decide) (by decide) ?_
                      refine xw_aload_n (pc := 133) (i := 0) (x := x0) C dX9_count_133 rfl rfl ?_
                      obtain ⟨v39, q40, hm⟩ := xbind hm
                      refine xw_getR (pc := 134) C dX9_count_134 fl_X9_7 q40 ?_
                      refine xw_bipush (pc := 137) (v := 76) C dX9_count_137 xk_b_76 ?_
                      obtain ⟨v41, q42, hm⟩ := xbind hm
                      refine xw_iaload (pc := 139) C dX9_count_139 q42 ?_
                      obtain rfl := Option.some.inj hm
                      exact xw_ireturn (pc := 140) C dX9_count_140 rfl hX
                    · replace hm := xif_f q10 hm
                      by_cases q11 : x1 = 10
                      · replace hm := xif_t q11 hm
                        refine xw_tabIn (pc := 1) (v := 10) (off := 140) (tgt := 141) C dX9_count_1 q11 (by decide) (by decide) (by decide) (by decide) ?_
                        exact xw_sub (pc := 141) [some (.ref x0), some (.int x1)] ⟨Or.inr rfl, Or.inr rfl, trivial⟩ (fX9_count_J141_w C hN hm hX)
                      · replace hm := xif_f q11 hm
                        by_cases q12 : x1 = 11
                        · replace hm := xif_t q12 hm
                          refine xw_tabIn (pc := 1) (v := 11) (off := 140) (tgt := 141) C dX9_count_1 q12 (by decide) (by decide) (by decide) (by decide) ?_
                          exact xw_sub (pc := 141) [some (.ref x0), some (.int x1)] ⟨Or.inr rfl, Or.inr rfl, trivial⟩ (fX9_count_J141_w C hN hm hX)
                        · replace hm := xif_f q12 hm
                          by_cases q13 : x1 = 12
                          · replace hm := xif_t q13 hm
                            refine xw_tabIn (pc := 1) (v := 12) (off := 140) (tgt := 141) C dX9_count_1 q13 (by decide) (by decide) (by decide) (by decide) ?_
                            exact xw_sub (pc := 141) [some (.ref x0), some (.int x1)] ⟨Or.inr rfl, Or.inr rfl, trivial⟩ (fX9_count_J141_w C hN hm hX)
                          · replace hm := xif_f q13 hm
                            by_cases q14 : x1 = 13
                            · replace hm := xif_t q14 hm
                              refine xw_tabIn (pc := 1) (v := 13) (off := 140) (tgt := 141) C dX9_count_1 q14 (by decide) (by decide) (by decide) (by decide) ?_
                              exact xw_sub (pc := 141) [some (.ref x0), some (.int x1)] ⟨Or.inr rfl, Or.inr rfl, trivial⟩ (fX9_count_J141_w C hN hm hX)
                            · replace hm := xif_f q14 hm
                              by_cases q15 : x1 = 14
                              · replace hm := xif_t q15 hm
                                refine xw_tabIn (pc := 1) (v := 14) (off := 140) (tgt := 141) C dX9_count_1 q15 (by decide) (by decide) (by decide) (by decide) ?_
                                exact xw_sub (pc := 141) [some (.ref x0), some (.int x1)] ⟨Or.inr rfl, Or.inr rfl, trivial⟩ (fX9_count_J141_w C hN hm hX)
                              · replace hm := xif_f q15 hm
                                by_cases q16 : x1 = 15
                                · replace hm := xif_t q16 hm
                                  refine xw_tabIn (pc := 1) (v := 15) (off := 153) (tgt := 154) C dX9_count_1 q16 (by decide) (by decide) (by decide) (by decide) ?_
                                  refine xw_aload_n (pc := 154) (i := 0) (x := x0) C dX9_count_154 rfl rfl ?_
                                  refine xw_sipush (pc := 155) (v := -1004) C dX9_count_155 xk_s_m1004 ?_
                                  obtain ⟨_, q47, hm⟩ := xbind hm
                                  obtain ⟨v48, q49, hm⟩ := xbind hm
                                  refine xw_callV1 (pc := 158) (As := [.int (-1004 : Int32)]) (st := []) C dX9_count_158 (wX9_goesTo q49) dd_X9_goesTo lk_X9_178 dv_X9_goesTo (xco_spec q47) rfl (Nat.le_of_ble_eq_true rfl) (Nat.le_of_ble_eq_true rfl) (Nat.le_of_ble_eq_true rfl) ⟨Nat.le_refl _, Nat.le_refl _⟩ hN ?_
                                  obtain rfl := Option.some.inj hm
                                  exact xw_ireturn (pc := 161) C dX9_count_161 rfl hX
                                · replace hm := xif_f q16 hm
                                  by_cases q17 : x1 = 16
                                  · replace hm := xif_t q17 hm
                                    refine xw_tabIn (pc := 1) (v := 16) (off := 161) (tgt := 162) C dX9_count_1 q17 (by decide) (by decide) (by decide) (by decide) ?_
                                    refine xw_aload_n (pc := 162) (i := 0) (x := x0) C dX9_count_162 rfl rfl ?_
                                    obtain ⟨v50, q51, hm⟩ := xbind hm
                                    refine xw_getI (pc := 163) C dX9_count_163 fl_X9_62 q51 ?_
                                    obtain rfl := Option.some.inj hm
                                    exact xw_ireturn (pc := 166) C dX9_count_166 rfl hX
                                  · replace hm := xif_f q17 hm
                                    by_cases q18 : x1 = 17
                                    · replace hm := xif_t q18 hm
                                      refine xw_tabIn (pc := 1) (v := 17) (off := 166) (tgt := 167) C dX9_count_1 q18 (by decide) (by decide) (by decide) (by decide) ?_
                                      refine xw_aload_n (pc := 167) (i := 0) (x := x0) C dX9_count_167 rfl rfl ?_
                                      obtain ⟨v52, q53, hm⟩ := xbind hm
                                      refine xw_getI (pc := 168) C dX9_count_168 fl_X9_29 q53 ?_
                                      obtain rfl := Option.some.inj hm
                                      exact xw_ireturn (pc := 171) C dX9_count_171 rfl hX
                                    · replace hm := xif_f q18 hm
                                      refine xw_tabOut (pc := 1) (tgt := 172) C dX9_count_1 (by have := lv_neT q1 (a := 0) (by decide); have := lv_neT q2 (a := 1) (by decide); have := lv_neT q3 (a := 2) (by decide); have := lv_neT q4 (a := 3) (by decide); have := lv_neT q5 (a := 4) (by decide); have := lv_neT q6 (a := 5) (by decide); have := lv_neT q7 (a := 6) (by decide); have := lv_neT q8 (a := 7) (by decide); have := lv_neT q9 (a := 8) (by decide); have := lv_neT q10 (a := 9) (by decide); have := lv_neT q11 (a := 10) (by decide); have := lv_neT q12 (a := 11) (by decide); have := lv_neT q13 (a := 12) (by decide); have := lv_neT q14 (a := 13) (by decide); have := lv_neT q15 (a := 14) (by decide); have := lv_neT q16 (a := 15) (by decide); have := lv_neT q17 (a := 16) (by decide); have := lv_neT q18 (a := 17) (by decide); omega) (by decide) ?_
                                      refine xw_sipush (pc := 172) (v := -1001) C dX9_count_172 xk_s_m1001 ?_
                                      obtain rfl := Option.some.inj hm
                                      exact xw_ireturn (pc := 175) C dX9_count_175 rfl hX
