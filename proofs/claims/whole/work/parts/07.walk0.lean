set_option maxHeartbeats 4000000 in
set_option maxRecDepth 100000 in
theorem wJ13_bitCount_95d88 {l : Launch} {n sl : Nat} {h : XH} {x0 : Int64} {o : Int32} (hm : fJ13_bitCount_95d88 x0 = some o) : XM l yJ13_bitCount_95d88 cJ13_bitCount_95d88 2 (some .int) 0 0 [.long x0] h n sl (some (.int o)) h n sl := by
  refine xm_of pnJ13 [some (.long x0), none] 0 rfl (Nat.le_of_ble_eq_true rfl) ?_
  intro X hT C
  replace C : XOK X RJ13 cJ13_bitCount_95d88 2 "bitCount" (some .int) 0 0 := C
  obtain ⟨-, hN, hX⟩ := hT
  unfold fJ13_bitCount_95d88 at hm
  refine xw_lload_n (pc := 0) (i := 0) (x := x0) C dJ13_bitCount_95d88_0 rfl rfl ?_
  refine xw_lload_n (pc := 1) (i := 0) (x := x0) C dJ13_bitCount_95d88_1 rfl rfl ?_
  refine xw_iconst (pc := 2) (v := 1) C dJ13_bitCount_95d88_2 xk_i_1 ?_
  refine xw_lushr (pc := 3) C dJ13_bitCount_95d88_3 ?_
  refine xw_ldc2 (pc := 4) (v := 6148914691236517205) C dJ13_bitCount_95d88_4 cn_J13_314 ?_
  refine xw_land (pc := 7) C dJ13_bitCount_95d88_7 ?_
  refine xw_lsub (pc := 8) C dJ13_bitCount_95d88_8 ?_
  obtain ⟨y1, ey1, hm⟩ := xlet_ex hm
  refine xw_topJ ey1 ?_
  refine xw_lstore_n (pc := 9) (i := 0) (x := y1) (L' := [some (.long y1), none]) C dJ13_bitCount_95d88_9 rfl (Nat.le_of_ble_eq_true rfl) rfl ?_
  refine xw_lload_n (pc := 10) (i := 0) (x := y1) C dJ13_bitCount_95d88_10 rfl rfl ?_
  refine xw_ldc2 (pc := 11) (v := 3689348814741910323) C dJ13_bitCount_95d88_11 cn_J13_316 ?_
  refine xw_land (pc := 14) C dJ13_bitCount_95d88_14 ?_
  refine xw_lload_n (pc := 15) (i := 0) (x := y1) C dJ13_bitCount_95d88_15 rfl rfl ?_
  refine xw_iconst (pc := 16) (v := 2) C dJ13_bitCount_95d88_16 xk_i_2 ?_
  refine xw_lushr (pc := 17) C dJ13_bitCount_95d88_17 ?_
  refine xw_ldc2 (pc := 18) (v := 3689348814741910323) C dJ13_bitCount_95d88_18 cn_J13_316 ?_
  refine xw_land (pc := 21) C dJ13_bitCount_95d88_21 ?_
  refine xw_ladd (pc := 22) C dJ13_bitCount_95d88_22 ?_
  obtain ⟨y2, ey2, hm⟩ := xlet_ex hm
  refine xw_topJ ey2 ?_
  refine xw_lstore_n (pc := 23) (i := 0) (x := y2) (L' := [some (.long y2), none]) C dJ13_bitCount_95d88_23 rfl (Nat.le_of_ble_eq_true rfl) rfl ?_
  refine xw_lload_n (pc := 24) (i := 0) (x := y2) C dJ13_bitCount_95d88_24 rfl rfl ?_
  refine xw_lload_n (pc := 25) (i := 0) (x := y2) C dJ13_bitCount_95d88_25 rfl rfl ?_
  refine xw_iconst (pc := 26) (v := 4) C dJ13_bitCount_95d88_26 xk_i_4 ?_
  refine xw_lushr (pc := 27) C dJ13_bitCount_95d88_27 ?_
  refine xw_ladd (pc := 28) C dJ13_bitCount_95d88_28 ?_
  refine xw_ldc2 (pc := 29) (v := 1085102592571150095) C dJ13_bitCount_95d88_29 cn_J13_318 ?_
  refine xw_land (pc := 32) C dJ13_bitCount_95d88_32 ?_
  obtain ⟨y3, ey3, hm⟩ := xlet_ex hm
  refine xw_topJ ey3 ?_
  refine xw_lstore_n (pc := 33) (i := 0) (x := y3) (L' := [some (.long y3), none]) C dJ13_bitCount_95d88_33 rfl (Nat.le_of_ble_eq_true rfl) rfl ?_
  refine xw_lload_n (pc := 34) (i := 0) (x := y3) C dJ13_bitCount_95d88_34 rfl rfl ?_
  refine xw_lload_n (pc := 35) (i := 0) (x := y3) C dJ13_bitCount_95d88_35 rfl rfl ?_
  refine xw_bipush (pc := 36) (v := 8) C dJ13_bitCount_95d88_36 xk_b_8 ?_
  refine xw_lushr (pc := 38) C dJ13_bitCount_95d88_38 ?_
  refine xw_ladd (pc := 39) C dJ13_bitCount_95d88_39 ?_
  obtain ⟨y4, ey4, hm⟩ := xlet_ex hm
  refine xw_topJ ey4 ?_
  refine xw_lstore_n (pc := 40) (i := 0) (x := y4) (L' := [some (.long y4), none]) C dJ13_bitCount_95d88_40 rfl (Nat.le_of_ble_eq_true rfl) rfl ?_
  refine xw_lload_n (pc := 41) (i := 0) (x := y4) C dJ13_bitCount_95d88_41 rfl rfl ?_
  refine xw_lload_n (pc := 42) (i := 0) (x := y4) C dJ13_bitCount_95d88_42 rfl rfl ?_
  refine xw_bipush (pc := 43) (v := 16) C dJ13_bitCount_95d88_43 xk_b_16 ?_
  refine xw_lushr (pc := 45) C dJ13_bitCount_95d88_45 ?_
  refine xw_ladd (pc := 46) C dJ13_bitCount_95d88_46 ?_
  obtain ⟨y5, ey5, hm⟩ := xlet_ex hm
  refine xw_topJ ey5 ?_
  refine xw_lstore_n (pc := 47) (i := 0) (x := y5) (L' := [some (.long y5), none]) C dJ13_bitCount_95d88_47 rfl (Nat.le_of_ble_eq_true rfl) rfl ?_
  refine xw_lload_n (pc := 48) (i := 0) (x := y5) C dJ13_bitCount_95d88_48 rfl rfl ?_
  refine xw_lload_n (pc := 49) (i := 0) (x := y5) C dJ13_bitCount_95d88_49 rfl rfl ?_
  refine xw_bipush (pc := 50) (v := 32) C dJ13_bitCount_95d88_50 xk_b_32 ?_
  refine xw_lushr (pc := 52) C dJ13_bitCount_95d88_52 ?_
  refine xw_ladd (pc := 53) C dJ13_bitCount_95d88_53 ?_
  obtain ⟨y6, ey6, hm⟩ := xlet_ex hm
  refine xw_topJ ey6 ?_
  refine xw_lstore_n (pc := 54) (i := 0) (x := y6) (L' := [some (.long y6), none]) C dJ13_bitCount_95d88_54 rfl (Nat.le_of_ble_eq_true rfl) rfl ?_
  refine xw_lload_n (pc := 55) (i := 0) (x := y6) C dJ13_bitCount_95d88_55 rfl rfl ?_
  refine xw_l2i (pc := 56) C dJ13_bitCount_95d88_56 ?_
  refine xw_bipush (pc := 57) (v := 127) C dJ13_bitCount_95d88_57 xk_b_127 ?_
  refine xw_iand (pc := 59) C dJ13_bitCount_95d88_59 ?_
  obtain rfl := Option.some.inj hm
  exact xw_ireturn (pc := 60) C dJ13_bitCount_95d88_60 rfl hX
set_option maxHeartbeats 4000000 in
set_option maxRecDepth 100000 in
theorem wJ6_bitCount_0f7a4 {l : Launch} {n sl : Nat} {h : XH} {x0 : Int32} {o : Int32} (hm : fJ6_bitCount_0f7a4 x0 = some o) : XM l yJ6_bitCount_0f7a4 cJ6_bitCount_0f7a4 1 (some .int) 0 0 [.int x0] h n sl (some (.int o)) h n sl := by
  refine xm_of pnJ6 [some (.int x0)] 0 rfl (Nat.le_of_ble_eq_true rfl) ?_
  intro X hT C
  replace C : XOK X RJ6 cJ6_bitCount_0f7a4 1 "bitCount" (some .int) 0 0 := C
  obtain ⟨-, hN, hX⟩ := hT
  unfold fJ6_bitCount_0f7a4 at hm
  refine xw_iload_n (pc := 0) (i := 0) (x := x0) C dJ6_bitCount_0f7a4_0 rfl rfl ?_
  refine xw_iload_n (pc := 1) (i := 0) (x := x0) C dJ6_bitCount_0f7a4_1 rfl rfl ?_
  refine xw_iconst (pc := 2) (v := 1) C dJ6_bitCount_0f7a4_2 xk_i_1 ?_
  refine xw_iushr (pc := 3) C dJ6_bitCount_0f7a4_3 ?_
  refine xw_ldcw (pc := 4) (v := 1431655765) C dJ6_bitCount_0f7a4_4 cn_J6_265 ?_
  refine xw_iand (pc := 7) C dJ6_bitCount_0f7a4_7 ?_
  refine xw_isub (pc := 8) C dJ6_bitCount_0f7a4_8 ?_
  obtain ⟨y1, ey1, hm⟩ := xlet_ex hm
  refine xw_topI ey1 ?_
  refine xw_istore_n (pc := 9) (i := 0) (x := y1) (L' := [some (.int y1)]) C dJ6_bitCount_0f7a4_9 rfl (Nat.le_of_ble_eq_true rfl) rfl ?_
  refine xw_iload_n (pc := 10) (i := 0) (x := y1) C dJ6_bitCount_0f7a4_10 rfl rfl ?_
  refine xw_ldcw (pc := 11) (v := 858993459) C dJ6_bitCount_0f7a4_11 cn_J6_266 ?_
  refine xw_iand (pc := 14) C dJ6_bitCount_0f7a4_14 ?_
  refine xw_iload_n (pc := 15) (i := 0) (x := y1) C dJ6_bitCount_0f7a4_15 rfl rfl ?_
  refine xw_iconst (pc := 16) (v := 2) C dJ6_bitCount_0f7a4_16 xk_i_2 ?_
  refine xw_iushr (pc := 17) C dJ6_bitCount_0f7a4_17 ?_
  refine xw_ldcw (pc := 18) (v := 858993459) C dJ6_bitCount_0f7a4_18 cn_J6_266 ?_
  refine xw_iand (pc := 21) C dJ6_bitCount_0f7a4_21 ?_
  refine xw_iadd (pc := 22) C dJ6_bitCount_0f7a4_22 ?_
  obtain ⟨y2, ey2, hm⟩ := xlet_ex hm
  refine xw_topI ey2 ?_
  refine xw_istore_n (pc := 23) (i := 0) (x := y2) (L' := [some (.int y2)]) C dJ6_bitCount_0f7a4_23 rfl (Nat.le_of_ble_eq_true rfl) rfl ?_
  refine xw_iload_n (pc := 24) (i := 0) (x := y2) C dJ6_bitCount_0f7a4_24 rfl rfl ?_
  refine xw_iload_n (pc := 25) (i := 0) (x := y2) C dJ6_bitCount_0f7a4_25 rfl rfl ?_
  refine xw_iconst (pc := 26) (v := 4) C dJ6_bitCount_0f7a4_26 xk_i_4 ?_
  refine xw_iushr (pc := 27) C dJ6_bitCount_0f7a4_27 ?_
  refine xw_iadd (pc := 28) C dJ6_bitCount_0f7a4_28 ?_
  refine xw_ldcw (pc := 29) (v := 252645135) C dJ6_bitCount_0f7a4_29 cn_J6_267 ?_
  refine xw_iand (pc := 32) C dJ6_bitCount_0f7a4_32 ?_
  obtain ⟨y3, ey3, hm⟩ := xlet_ex hm
  refine xw_topI ey3 ?_
  refine xw_istore_n (pc := 33) (i := 0) (x := y3) (L' := [some (.int y3)]) C dJ6_bitCount_0f7a4_33 rfl (Nat.le_of_ble_eq_true rfl) rfl ?_
  refine xw_iload_n (pc := 34) (i := 0) (x := y3) C dJ6_bitCount_0f7a4_34 rfl rfl ?_
  refine xw_iload_n (pc := 35) (i := 0) (x := y3) C dJ6_bitCount_0f7a4_35 rfl rfl ?_
  refine xw_bipush (pc := 36) (v := 8) C dJ6_bitCount_0f7a4_36 xk_b_8 ?_
  refine xw_iushr (pc := 38) C dJ6_bitCount_0f7a4_38 ?_
  refine xw_iadd (pc := 39) C dJ6_bitCount_0f7a4_39 ?_
  obtain ⟨y4, ey4, hm⟩ := xlet_ex hm
  refine xw_topI ey4 ?_
  refine xw_istore_n (pc := 40) (i := 0) (x := y4) (L' := [some (.int y4)]) C dJ6_bitCount_0f7a4_40 rfl (Nat.le_of_ble_eq_true rfl) rfl ?_
  refine xw_iload_n (pc := 41) (i := 0) (x := y4) C dJ6_bitCount_0f7a4_41 rfl rfl ?_
  refine xw_iload_n (pc := 42) (i := 0) (x := y4) C dJ6_bitCount_0f7a4_42 rfl rfl ?_
  refine xw_bipush (pc := 43) (v := 16) C dJ6_bitCount_0f7a4_43 xk_b_16 ?_
  refine xw_iushr (pc := 45) C dJ6_bitCount_0f7a4_45 ?_
  refine xw_iadd (pc := 46) C dJ6_bitCount_0f7a4_46 ?_
  obtain ⟨y5, ey5, hm⟩ := xlet_ex hm
  refine xw_topI ey5 ?_
  refine xw_istore_n (pc := 47) (i := 0) (x := y5) (L' := [some (.int y5)]) C dJ6_bitCount_0f7a4_47 rfl (Nat.le_of_ble_eq_true rfl) rfl ?_
  refine xw_iload_n (pc := 48) (i := 0) (x := y5) C dJ6_bitCount_0f7a4_48 rfl rfl ?_
  refine xw_bipush (pc := 49) (v := 63) C dJ6_bitCount_0f7a4_49 xk_b_63 ?_
  refine xw_iand (pc := 51) C dJ6_bitCount_0f7a4_51 ?_
  obtain rfl := Option.some.inj hm
  exact xw_ireturn (pc := 52) C dJ6_bitCount_0f7a4_52 rfl hX
set_option maxHeartbeats 4000000 in
set_option maxRecDepth 100000 in
theorem wX8_hasBit {l : Launch} {n sl : Nat} {h : XH} {x0 : Int64} {x2 : Int32} {o : Bool} (hm : fX8_hasBit x0 x2 = some o) : XM l yX8_hasBit cX8_hasBit 3 (some .boolean) 0 0 [.long x0, .int x2] h n sl (some (.int (xbi o))) h n sl := by
  refine xm_of pnX8 [some (.long x0), none, some (.int x2)] 0 rfl (Nat.le_of_ble_eq_true rfl) ?_
  intro X hT C
  replace C : XOK X RX8 cX8_hasBit 3 "hasBit" (some .boolean) 0 0 := C
  obtain ⟨-, hN, hX⟩ := hT
  unfold fX8_hasBit at hm
  refine xw_lload_n (pc := 0) (i := 0) (x := x0) C dX8_hasBit_0 rfl rfl ?_
  refine xw_iload_n (pc := 1) (i := 2) (x := x2) C dX8_hasBit_1 rfl rfl ?_
  refine xw_lushr (pc := 2) C dX8_hasBit_2 ?_
  refine xw_lconst (pc := 3) (v := 1) C dX8_hasBit_3 xk_l_1 ?_
  refine xw_land (pc := 4) C dX8_hasBit_4 ?_
  refine xw_lconst (pc := 5) (v := 1) C dX8_hasBit_5 xk_l_1 ?_
  refine xw_lcmp (pc := 6) C dX8_hasBit_6 ?_
  refine xw_if_ne (pc := 7) (tgt := 14) C dX8_hasBit_7 (by decide) (fun q => ?_) (fun q => ?_)
  · replace hm := xif_f q hm
    refine xw_iconst (pc := 14) (v := 0) C dX8_hasBit_14 xk_i_0 ?_
    obtain rfl := Option.some.inj hm
    exact xw_zreturn (pc := 15) (v := xbi false) C dX8_hasBit_15 rfl (xbi_nar _) hX
  · replace hm := xif_t q hm
    refine xw_iconst (pc := 10) (v := 1) C dX8_hasBit_10 xk_i_1 ?_
    refine xw_goto (pc := 11) (tgt := 15) C dX8_hasBit_11 (by decide) ?_
    obtain rfl := Option.some.inj hm
    exact xw_zreturn (pc := 15) (v := xbi true) C dX8_hasBit_15 rfl (xbi_nar _) hX
set_option maxHeartbeats 4000000 in
set_option maxRecDepth 100000 in
theorem wX8_mod {l : Launch} {n sl : Nat} {h : XH} {x0 : Int32} {x1 : Int32} {o : Int32} (hm : fX8_mod x0 x1 = some o) : XM l yX8_mod cX8_mod 3 (some .int) 0 0 [.int x0, .int x1] h n sl (some (.int o)) h n sl := by
  refine xm_of pnX8 [some (.int x0), some (.int x1), none] 1 rfl (Nat.le_of_ble_eq_true rfl) ?_
  intro X hT C
  replace C : XOK X RX8 cX8_mod 3 "mod" (some .int) 0 0 := C
  obtain ⟨-, hN, hX⟩ := hT
  unfold fX8_mod at hm
  refine xw_iload_n (pc := 0) (i := 1) (x := x1) C dX8_mod_0 rfl rfl ?_
  refine xw_if_gt (pc := 1) (tgt := 6) C dX8_mod_1 (by decide) (fun q => ?_) (fun q => ?_)
  · replace hm := xif_t q hm
    refine xw_iload_n (pc := 6) (i := 0) (x := x0) C dX8_mod_6 rfl rfl ?_
    refine xw_iload_n (pc := 7) (i := 1) (x := x1) C dX8_mod_7 rfl rfl ?_
    obtain ⟨q1, hm⟩ := xif_n hm
    refine xw_irem (pc := 8) C dX8_mod_8 q1 ?_
    refine xw_istore_n (pc := 9) (i := 2) (x := (xrem x0 x1)) (L' := [some (.int x0), some (.int x1), some (.int (xrem x0 x1))]) C dX8_mod_9 rfl (Nat.le_of_ble_eq_true rfl) rfl ?_
    refine xw_iload_n (pc := 10) (i := 2) (x := (xrem x0 x1)) C dX8_mod_10 rfl rfl ?_
    refine xw_if_ge (pc := 11) (tgt := 20) C dX8_mod_11 (by decide) (fun q => ?_) (fun q => ?_)
    · replace hm := xif_t q hm
      refine xw_iload_n (pc := 20) (i := 2) (x := (xrem x0 x1)) C dX8_mod_20 rfl rfl ?_
      obtain rfl := Option.some.inj hm
      exact xw_ireturn (pc := 21) C dX8_mod_21 rfl hX
    · replace hm := xif_f q hm
      refine xw_iload_n (pc := 14) (i := 2) (x := (xrem x0 x1)) C dX8_mod_14 rfl rfl ?_
      refine xw_iload_n (pc := 15) (i := 1) (x := x1) C dX8_mod_15 rfl rfl ?_
      refine xw_iadd (pc := 16) C dX8_mod_16 ?_
      refine xw_goto (pc := 17) (tgt := 21) C dX8_mod_17 (by decide) ?_
      obtain rfl := Option.some.inj hm
      exact xw_ireturn (pc := 21) C dX8_mod_21 rfl hX
  · replace hm := xif_f q hm
    refine xw_iconst (pc := 4) (v := 0) C dX8_mod_4 xk_i_0 ?_
    obtain rfl := Option.some.inj hm
    exact xw_ireturn (pc := 5) C dX8_mod_5 rfl hX
set_option maxHeartbeats 4000000 in
set_option maxRecDepth 100000 in
theorem wX0_has {l : Launch} {n sl : Nat} {h : XH} {x0 : Nat} {x1 : Int32} {o : Bool} (hm : fX0_has h x0 x1 = some o) : XM l yX0_has cX0_has 2 (some .boolean) 1 22 [.ref x0, .int x1] h n sl (some (.int (xbi o))) h n sl := by
  refine xm_of pnX0 [some (.ref x0), some (.int x1)] 0 rfl (Nat.le_of_ble_eq_true rfl) ?_
  intro X hT C
  replace C : XOK X RX0 cX0_has 2 "has" (some .boolean) 1 22 := C
  obtain ⟨-, hN, hX⟩ := hT
  unfold fX0_has at hm
  refine xw_aload_n (pc := 0) (i := 0) (x := x0) C dX0_has_0 rfl rfl ?_
  obtain ⟨v1, q2, hm⟩ := xbind hm
  refine xw_getJ (pc := 1) C dX0_has_1 fl_X0_28 q2 ?_
  refine xw_iload_n (pc := 4) (i := 1) (x := x1) C dX0_has_4 rfl rfl ?_
  refine xw_aload_n (pc := 5) (i := 0) (x := x0) C dX0_has_5 rfl rfl ?_
  obtain ⟨v3, q4, hm⟩ := xbind hm
  refine xw_getI (pc := 6) C dX0_has_6 fl_X0_18 q4 ?_
  obtain ⟨v5, q6, hm⟩ := xbind hm
  refine xw_callSN1 (pc := 9) (As := [.int x1, .int v3]) (st := [.long v1]) C dX0_has_9 (wX8_mod q6) dd_X8_mod lk_X0_36 ds_X8_mod rfl (Nat.le_of_ble_eq_true rfl) (Nat.le_of_ble_eq_true rfl) (Nat.le_of_ble_eq_true rfl) ⟨Nat.le_refl _, Nat.le_refl _⟩ hN ?_
  obtain ⟨v7, q8, hm⟩ := xbind hm
  refine xw_callSN1 (pc := 12) (As := [.long v1, .int v5]) (st := []) C dX0_has_12 (wX8_hasBit q8) dd_X8_hasBit lk_X0_40 ds_X8_hasBit rfl (Nat.le_of_ble_eq_true rfl) (Nat.le_of_ble_eq_true rfl) (Nat.le_of_ble_eq_true rfl) ⟨Nat.le_refl _, Nat.le_refl _⟩ hN ?_
  obtain rfl := Option.some.inj hm
  exact xw_zreturn (pc := 15) (v := xbi v7) C dX0_has_15 rfl (xbi_nar _) hX
set_option maxHeartbeats 4000000 in
set_option maxRecDepth 100000 in
theorem wX8_at {l : Launch} {n sl : Nat} {h : XH} {x0 : Nat} {x1 : Int32} {o : Int32} (hm : fX8_at h x0 x1 = some o) : XM l yX8_at cX8_at 2 (some .int) 0 0 [.ref x0, .int x1] h n sl (some (.int o)) h n sl := by
  refine xm_of pnX8 [some (.ref x0), some (.int x1)] 0 rfl (Nat.le_of_ble_eq_true rfl) ?_
  intro X hT C
  replace C : XOK X RX8 cX8_at 2 "at" (some .int) 0 0 := C
  obtain ⟨-, hN, hX⟩ := hT
  unfold fX8_at at hm
  refine xw_iload_n (pc := 0) (i := 1) (x := x1) C dX8_at_0 rfl rfl ?_
  refine xw_if_lt (pc := 1) (tgt := 16) C dX8_at_1 (by decide) (fun q => ?_) (fun q => ?_)
  · replace hm := xif_t q hm
    refine xw_iconst (pc := 16) (v := 0) C dX8_at_16 xk_i_0 ?_
    obtain rfl := Option.some.inj hm
    exact xw_ireturn (pc := 17) C dX8_at_17 rfl hX
  · replace hm := xif_f q hm
    refine xw_iload_n (pc := 4) (i := 1) (x := x1) C dX8_at_4 rfl rfl ?_
    refine xw_aload_n (pc := 5) (i := 0) (x := x0) C dX8_at_5 rfl rfl ?_
    obtain ⟨v1, q2, hm⟩ := xbind hm
    refine xw_alen (pc := 6) C dX8_at_6 q2 ?_
    refine xw_icmp_ge (pc := 7) (tgt := 16) C dX8_at_7 (by decide) (fun q => ?_) (fun q => ?_)
    · replace hm := xif_t q hm
      refine xw_iconst (pc := 16) (v := 0) C dX8_at_16 xk_i_0 ?_
      obtain rfl := Option.some.inj hm
      exact xw_ireturn (pc := 17) C dX8_at_17 rfl hX
    · replace hm := xif_f q hm
      refine xw_aload_n (pc := 10) (i := 0) (x := x0) C dX8_at_10 rfl rfl ?_
      refine xw_iload_n (pc := 11) (i := 1) (x := x1) C dX8_at_11 rfl rfl ?_
      obtain ⟨v3, q4, hm⟩ := xbind hm
      refine xw_iaload (pc := 12) C dX8_at_12 q4 ?_
      refine xw_goto (pc := 13) (tgt := 17) C dX8_at_13 (by decide) ?_
      obtain rfl := Option.some.inj hm
      exact xw_ireturn (pc := 17) C dX8_at_17 rfl hX
set_option maxHeartbeats 4000000 in
set_option maxRecDepth 100000 in
theorem wX8_put {l : Launch} {n sl : Nat} {h : XH} {x0 : Nat} {x1 : Int32} {x2 : Int32} {o : XH} (hm : fX8_put h x0 x1 x2 = some o) : XM l yX8_put cX8_put 3 none 0 0 [.ref x0, .int x1, .int x2] h n sl none o n sl := by
  refine xm_of pnX8 [some (.ref x0), some (.int x1), some (.int x2)] 0 rfl (Nat.le_of_ble_eq_true rfl) ?_
  intro X hT C
  replace C : XOK X RX8 cX8_put 3 "put" none 0 0 := C
  obtain ⟨-, hN, hX⟩ := hT
  unfold fX8_put at hm
  refine xw_iload_n (pc := 0) (i := 1) (x := x1) C dX8_put_0 rfl rfl ?_
  refine xw_if_lt (pc := 1) (tgt := 14) C dX8_put_1 (by decide) (fun q => ?_) (fun q => ?_)
  · replace hm := xif_t q hm
    obtain rfl := Option.some.inj hm
    exact xw_return (pc := 14) C dX8_put_14 rfl hX
  · replace hm := xif_f q hm
    refine xw_iload_n (pc := 4) (i := 1) (x := x1) C dX8_put_4 rfl rfl ?_
    refine xw_aload_n (pc := 5) (i := 0) (x := x0) C dX8_put_5 rfl rfl ?_
    obtain ⟨v1, q2, hm⟩ := xbind hm
    refine xw_alen (pc := 6) C dX8_put_6 q2 ?_
    refine xw_icmp_ge (pc := 7) (tgt := 14) C dX8_put_7 (by decide) (fun q => ?_) (fun q => ?_)
    · replace hm := xif_t q hm
      obtain rfl := Option.some.inj hm
      exact xw_return (pc := 14) C dX8_put_14 rfl hX
    · replace hm := xif_f q hm
      refine xw_aload_n (pc := 10) (i := 0) (x := x0) C dX8_put_10 rfl rfl ?_
      refine xw_iload_n (pc := 11) (i := 1) (x := x1) C dX8_put_11 rfl rfl ?_
      refine xw_iload_n (pc := 12) (i := 2) (x := x2) C dX8_put_12 rfl rfl ?_
      obtain ⟨h3, q4, hm⟩ := xbind hm
      refine xw_iastore (pc := 13) C dX8_put_13 q4 ?_
      obtain rfl := Option.some.inj hm
      exact xw_return (pc := 14) C dX8_put_14 rfl hX
def fX0_countByRemainder_P2 (X : XCtx) (x0 : Nat) (n sl : Nat) (s : (XH × Int32)) : Prop := XW X 2 [some (.ref x0), some (.int s.2), none] [] s.1 n sl
def fX0_countByRemainder_E2 (X : XCtx) (x0 : Nat) (n sl : Nat) (e : XH) : Prop := XW X 25 [some (.ref x0), none, none] [] e n sl
set_option maxHeartbeats 4000000 in
set_option maxRecDepth 100000 in
theorem fX0_countByRemainder_B2_w {X : XCtx} (C : XOK X RX0 cX0_countByRemainder 3 "countByRemainder" none 2 43) {n sl : Nat} (hN : XN X n sl) {x0 : Nat} (s : (XH × Int32)) (o : (XH × Int32) ⊕ XH) (hm : fX0_countByRemainder_B2 x0 s = some o) (hc : ∀ s', o = .inl s' → fX0_countByRemainder_P2 X x0 n sl s') (he : ∀ e', o = .inr e' → fX0_countByRemainder_E2 X x0 n sl e') : fX0_countByRemainder_P2 X x0 n sl s := by
  obtain ⟨h, x1⟩ := s
  show XW X 2 [some (.ref x0), some (.int x1), none] [] h n sl
  replace hm : fX0_countByRemainder_b2 x0 h x1 = some o := hm
  unfold fX0_countByRemainder_b2 at hm
  refine xw_iload_n (pc := 2) (i := 1) (x := x1) C dX0_countByRemainder_2 rfl rfl ?_
  refine xw_aload_n (pc := 3) (i := 0) (x := x0) C dX0_countByRemainder_3 rfl rfl ?_
  obtain ⟨v1, q2, hm⟩ := xbind hm
  refine xw_getI (pc := 4) C dX0_countByRemainder_4 fl_X0_18 q2 ?_
  refine xw_icmp_ge (pc := 7) (tgt := 25) C dX0_countByRemainder_7 (by decide) (fun q => ?_) (fun q => ?_)
  · replace hm := xif_t q hm
    obtain rfl := Option.some.inj hm
    refine xw_sub (pc := 25) _ ?_ (he _ rfl)
    exact ⟨Or.inr rfl, Or.inl rfl, Or.inl rfl, trivial⟩
  · replace hm := xif_f q hm
    refine xw_aload_n (pc := 10) (i := 0) (x := x0) C dX0_countByRemainder_10 rfl rfl ?_
    obtain ⟨v3, q4, hm⟩ := xbind hm
    refine xw_getR (pc := 11) C dX0_countByRemainder_11 fl_X0_9 q4 ?_
    refine xw_iload_n (pc := 14) (i := 1) (x := x1) C dX0_countByRemainder_14 rfl rfl ?_
    refine xw_iconst (pc := 15) (v := 0) C dX0_countByRemainder_15 xk_i_0 ?_
    obtain ⟨h5, q6, hm⟩ := xbind hm
    refine xw_callSN0 (pc := 16) (As := [.ref v3, .int x1, .int (0 : Int32)]) (st := []) C dX0_countByRemainder_16 (wX8_put q6) dd_X8_put lk_X0_54 ds_X8_put rfl (Nat.le_of_ble_eq_true rfl) (Nat.le_of_ble_eq_true rfl) (Nat.le_of_ble_eq_true rfl) ⟨Nat.le_refl _, Nat.le_refl _⟩ hN ?_
    refine xw_iinc (pc := 19) (i := 1) (x := x1) (v := (x1 + (1 : Int32))) (L' := [some (.ref x0), some (.int (x1 + (1 : Int32))), none]) C dX0_countByRemainder_19 rfl (congrArg (HAdd.hAdd _) xk_i_1) (Nat.le_of_ble_eq_true rfl) rfl ?_
    refine xw_goto (pc := 22) (tgt := 2) C dX0_countByRemainder_22 (by decide) ?_
    obtain rfl := Option.some.inj hm
    refine xw_sub (pc := 2) _ ?_ (hc _ rfl)
    exact ⟨Or.inr rfl, Or.inr rfl, Or.inl rfl, trivial⟩
def fX0_countByRemainder_P31 (X : XCtx) (x0 : Nat) (n sl : Nat) (s : (XH × Int32)) : Prop := XW X 31 [some (.ref x0), some (.int s.2), none] [] s.1 n sl
def fX0_countByRemainder_E31 (X : XCtx) (x0 : Nat) (n sl : Nat) (e : XH) : Prop := XW X 80 [none, none, none] [] e n sl
set_option maxHeartbeats 4000000 in
set_option maxRecDepth 100000 in
theorem fX0_countByRemainder_B31_w {X : XCtx} (C : XOK X RX0 cX0_countByRemainder 3 "countByRemainder" none 2 43) {n sl : Nat} (hN : XN X n sl) {x0 : Nat} (s : (XH × Int32)) (o : (XH × Int32) ⊕ XH) (hm : fX0_countByRemainder_B31 x0 s = some o) (hc : ∀ s', o = .inl s' → fX0_countByRemainder_P31 X x0 n sl s') (he : ∀ e', o = .inr e' → fX0_countByRemainder_E31 X x0 n sl e') : fX0_countByRemainder_P31 X x0 n sl s := by
  obtain ⟨h, x1⟩ := s
  show XW X 31 [some (.ref x0), some (.int x1), none] [] h n sl
  replace hm : fX0_countByRemainder_b31 x0 h x1 = some o := hm
  unfold fX0_countByRemainder_b31 at hm
  refine xw_iload_n (pc := 31) (i := 1) (x := x1) C dX0_countByRemainder_31 rfl rfl ?_
  refine xw_aload_n (pc := 32) (i := 0) (x := x0) C dX0_countByRemainder_32 rfl rfl ?_
  obtain ⟨v11, q12, hm⟩ := xbind hm
  refine xw_getI (pc := 33) C dX0_countByRemainder_33 fl_X0_27 q12 ?_
  refine xw_icmp_gt (pc := 36) (tgt := 80) C dX0_countByRemainder_36 (by decide) (fun q => ?_) (fun q => ?_)
  · replace hm := xif_t q hm
    obtain rfl := Option.some.inj hm
    refine xw_sub (pc := 80) _ ?_ (he _ rfl)
    exact ⟨Or.inl rfl, Or.inl rfl, Or.inl rfl, trivial⟩
  · replace hm := xif_f q hm
    refine xw_iload_n (pc := 39) (i := 1) (x := x1) C dX0_countByRemainder_39 rfl rfl ?_
    refine xw_aload_n (pc := 40) (i := 0) (x := x0) C dX0_countByRemainder_40 rfl rfl ?_
    obtain ⟨v13, q14, hm⟩ := xbind hm
    refine xw_getI (pc := 41) C dX0_countByRemainder_41 fl_X0_18 q14 ?_
    obtain ⟨v15, q16, hm⟩ := xbind hm
    refine xw_callSN1 (pc := 44) (As := [.int x1, .int v13]) (st := []) C dX0_countByRemainder_44 (wX8_mod q16) dd_X8_mod lk_X0_36 ds_X8_mod rfl (Nat.le_of_ble_eq_true rfl) (Nat.le_of_ble_eq_true rfl) (Nat.le_of_ble_eq_true rfl) ⟨Nat.le_refl _, Nat.le_refl _⟩ hN ?_
    refine xw_istore_n (pc := 47) (i := 2) (x := v15) (L' := [some (.ref x0), some (.int x1), some (.int v15)]) C dX0_countByRemainder_47 rfl (Nat.le_of_ble_eq_true rfl) rfl ?_
    refine xw_aload_n (pc := 48) (i := 0) (x := x0) C dX0_countByRemainder_48 rfl rfl ?_
    refine xw_iload_n (pc := 49) (i := 1) (x := x1) C dX0_countByRemainder_49 rfl rfl ?_
    obtain ⟨_, q17, hm⟩ := xbind hm
    obtain ⟨v18, q19, hm⟩ := xbind hm
    refine xw_callV1 (pc := 50) (As := [.int x1]) (st := []) C dX0_countByRemainder_50 (wX0_has q19) dd_X0_has lk_X0_44 dv_X0_has (xco_spec q17) rfl (Nat.le_of_ble_eq_true rfl) (Nat.le_of_ble_eq_true rfl) (Nat.le_of_ble_eq_true rfl) ⟨Nat.le_refl _, Nat.le_refl _⟩ hN ?_
    refine xw_if_eqZ (pc := 53) (b := v18) (tgt := 74) C dX0_countByRemainder_53 (by decide) (fun q => ?_) (fun q => ?_)
    · replace hm := xif_f q hm
      refine xw_iinc (pc := 74) (i := 1) (x := x1) (v := (x1 + (1 : Int32))) (L' := [some (.ref x0), some (.int (x1 + (1 : Int32))), some (.int v15)]) C dX0_countByRemainder_74 rfl (congrArg (HAdd.hAdd _) xk_i_1) (Nat.le_of_ble_eq_true rfl) rfl ?_
      refine xw_goto (pc := 77) (tgt := 31) C dX0_countByRemainder_77 (by decide) ?_
      obtain rfl := Option.some.inj hm
      refine xw_sub (pc := 31) _ ?_ (hc _ rfl)
      exact ⟨Or.inr rfl, Or.inr rfl, Or.inl rfl, trivial⟩
    · replace hm := xif_t q hm
      refine xw_aload_n (pc := 56) (i := 0) (x := x0) C dX0_countByRemainder_56 rfl rfl ?_
      obtain ⟨v20, q21, hm⟩ := xbind hm
      refine xw_getR (pc := 57) C dX0_countByRemainder_57 fl_X0_9 q21 ?_
      refine xw_iload_n (pc := 60) (i := 2) (x := v15) C dX0_countByRemainder_60 rfl rfl ?_
      refine xw_aload_n (pc := 61) (i := 0) (x := x0) C dX0_countByRemainder_61 rfl rfl ?_
      obtain ⟨v22, q23, hm⟩ := xbind hm
      refine xw_getR (pc := 62) C dX0_countByRemainder_62 fl_X0_9 q23 ?_
      refine xw_iload_n (pc := 65) (i := 2) (x := v15) C dX0_countByRemainder_65 rfl rfl ?_
      obtain ⟨v24, q25, hm⟩ := xbind hm
      refine xw_callSN1 (pc := 66) (As := [.ref v22, .int v15]) (st := [.int v15, .ref v20]) C dX0_countByRemainder_66 (wX8_at q25) dd_X8_at lk_X0_58 ds_X8_at rfl (Nat.le_of_ble_eq_true rfl) (Nat.le_of_ble_eq_true rfl) (Nat.le_of_ble_eq_true rfl) ⟨Nat.le_refl _, Nat.le_refl _⟩ hN ?_
      refine xw_iconst (pc := 69) (v := 1) C dX0_countByRemainder_69 xk_i_1 ?_
      refine xw_iadd (pc := 70) C dX0_countByRemainder_70 ?_
      obtain ⟨h26, q27, hm⟩ := xbind hm
      refine xw_callSN0 (pc := 71) (As := [.ref v20, .int v15, .int (v24 + (1 : Int32))]) (st := []) C dX0_countByRemainder_71 (wX8_put q27) dd_X8_put lk_X0_54 ds_X8_put rfl (Nat.le_of_ble_eq_true rfl) (Nat.le_of_ble_eq_true rfl) (Nat.le_of_ble_eq_true rfl) ⟨Nat.le_refl _, Nat.le_refl _⟩ hN ?_
      refine xw_iinc (pc := 74) (i := 1) (x := x1) (v := (x1 + (1 : Int32))) (L' := [some (.ref x0), some (.int (x1 + (1 : Int32))), some (.int v15)]) C dX0_countByRemainder_74 rfl (congrArg (HAdd.hAdd _) xk_i_1) (Nat.le_of_ble_eq_true rfl) rfl ?_
      refine xw_goto (pc := 77) (tgt := 31) C dX0_countByRemainder_77 (by decide) ?_
      obtain rfl := Option.some.inj hm
      refine xw_sub (pc := 31) _ ?_ (hc _ rfl)
      exact ⟨Or.inr rfl, Or.inr rfl, Or.inl rfl, trivial⟩
set_option maxHeartbeats 4000000 in
set_option maxRecDepth 100000 in
theorem wX0_countByRemainder {l : Launch} {n sl : Nat} {h : XH} {x0 : Nat} {o : XH} (hm : fX0_countByRemainder h x0 = some o) : XM l yX0_countByRemainder cX0_countByRemainder 3 none 2 43 [.ref x0] h n sl none o n sl := by
  refine xm_of pnX0 [some (.ref x0), none, none] 2 rfl (Nat.le_of_ble_eq_true rfl) ?_
  intro X hT C
  replace C : XOK X RX0 cX0_countByRemainder 3 "countByRemainder" none 2 43 := C
  obtain ⟨-, hN, hX⟩ := hT
  unfold fX0_countByRemainder at hm
  refine xw_iconst (pc := 0) (v := 0) C dX0_countByRemainder_0 xk_i_0 ?_
  refine xw_istore_n (pc := 1) (i := 1) (x := (0 : Int32)) (L' := [some (.ref x0), some (.int (0 : Int32)), none]) C dX0_countByRemainder_1 rfl (Nat.le_of_ble_eq_true rfl) rfl ?_
  obtain ⟨e7, q8, hm⟩ := xbind hm
  refine xw_sub (pc := 2) [some (.ref x0), some (.int (0 : Int32)), none] ⟨Or.inr rfl, Or.inr rfl, Or.inl rfl, trivial⟩ ?_
  refine xloop_walk (fX0_countByRemainder_B2 x0) (fX0_countByRemainder_P2 X x0 n sl) (fX0_countByRemainder_E2 X x0 n sl) (fun s' o' => fX0_countByRemainder_B2_w C hN s' o') 5000 (h, (0 : Int32)) e7 q8 ?_
  show XW X 25 [some (.ref x0), none, none] [] e7 n sl
  refine xw_aload_n (pc := 25) (i := 0) (x := x0) C dX0_countByRemainder_25 rfl rfl ?_
  obtain ⟨v9, q10, hm⟩ := xbind hm
  refine xw_getI (pc := 26) C dX0_countByRemainder_26 fl_X0_27 q10 ?_
  refine xw_ineg (pc := 29) C dX0_countByRemainder_29 ?_
  refine xw_istore_n (pc := 30) (i := 1) (x := (-v9)) (L' := [some (.ref x0), some (.int (-v9)), none]) C dX0_countByRemainder_30 rfl (Nat.le_of_ble_eq_true rfl) rfl ?_
  obtain ⟨e28, q29, hm⟩ := xbind hm
  refine xw_sub (pc := 31) [some (.ref x0), some (.int (-v9)), none] ⟨Or.inr rfl, Or.inr rfl, Or.inl rfl, trivial⟩ ?_
  refine xloop_walk (fX0_countByRemainder_B31 x0) (fX0_countByRemainder_P31 X x0 n sl) (fX0_countByRemainder_E31 X x0 n sl) (fun s' o' => fX0_countByRemainder_B31_w C hN s' o') 5000 (e7, (-v9)) e28 q29 ?_
  show XW X 80 [none, none, none] [] e28 n sl
  obtain rfl := Option.some.inj hm
  exact xw_return (pc := 80) C dX0_countByRemainder_80 rfl hX
def fX4_allFit_P3 (X : XCtx) (h : XH) (x0 : Nat) (x1 : Int32) (x2 : Int32) (x3 : Int32) (n sl : Nat) (s : Int32) : Prop := XW X 3 [some (.ref x0), some (.int x1), some (.int x2), some (.int x3), some (.int s)] [] h n sl
def fX4_allFit_E3 (X : XCtx) (h : XH) (x0 : Nat) (x1 : Int32) (x2 : Int32) (x3 : Int32) (n sl : Nat) (e : (Unit ⊕ Unit)) : Prop := match e with
  | .inl e => XW X 46 [none, none, none, none, none] [] h n sl
  | .inr e => XW X 54 [none, none, none, none, none] [] h n sl
set_option maxHeartbeats 4000000 in
set_option maxRecDepth 100000 in
theorem fX4_allFit_B3_w {X : XCtx} (C : XOK X RX4 cX4_allFit 5 "allFit" (some .boolean) 1 22) {n sl : Nat} (hN : XN X n sl) {h : XH} {x0 : Nat} {x1 : Int32} {x2 : Int32} {x3 : Int32} (s : Int32) (o : Int32 ⊕ (Unit ⊕ Unit)) (hm : fX4_allFit_B3 h x0 x1 x2 x3 s = some o) (hc : ∀ s', o = .inl s' → fX4_allFit_P3 X h x0 x1 x2 x3 n sl s') (he : ∀ e', o = .inr e' → fX4_allFit_E3 X h x0 x1 x2 x3 n sl e') : fX4_allFit_P3 X h x0 x1 x2 x3 n sl s := by
  revert s; intro x4 hm
  show XW X 3 [some (.ref x0), some (.int x1), some (.int x2), some (.int x3), some (.int x4)] [] h n sl
  replace hm : fX4_allFit_b3 h x0 x1 x2 x3 x4 = some o := hm
  unfold fX4_allFit_b3 at hm
  refine xw_iload (pc := 3) (i := 4) (x := x4) C dX4_allFit_3 rfl ?_
  refine xw_aload_n (pc := 5) (i := 0) (x := x0) C dX4_allFit_5 rfl rfl ?_
  obtain ⟨v1, q2, hm⟩ := xbind hm
  refine xw_getI (pc := 6) C dX4_allFit_6 fl_X4_26 q2 ?_
  refine xw_icmp_ge (pc := 9) (tgt := 54) C dX4_allFit_9 (by decide) (fun q => ?_) (fun q => ?_)
  · replace hm := xif_t q hm
    obtain rfl := Option.some.inj hm
    refine xw_sub (pc := 54) _ ?_ (he _ rfl)
    exact ⟨Or.inl rfl, Or.inl rfl, Or.inl rfl, Or.inl rfl, Or.inl rfl, trivial⟩
  · replace hm := xif_f q hm
    refine xw_iload (pc := 12) (i := 4) (x := x4) C dX4_allFit_12 rfl ?_
    refine xw_iload_n (pc := 14) (i := 3) (x := x3) C dX4_allFit_14 rfl rfl ?_
    refine xw_icmp_eq (pc := 15) (tgt := 48) C dX4_allFit_15 (by decide) (fun q => ?_) (fun q => ?_)
    · replace hm := xif_t q hm
      refine xw_iinc (pc := 48) (i := 4) (x := x4) (v := (x4 + (1 : Int32))) (L' := [some (.ref x0), some (.int x1), some (.int x2), some (.int x3), some (.int (x4 + (1 : Int32)))]) C dX4_allFit_48 rfl (congrArg (HAdd.hAdd _) xk_i_1) (Nat.le_of_ble_eq_true rfl) rfl ?_
      refine xw_goto (pc := 51) (tgt := 3) C dX4_allFit_51 (by decide) ?_
      obtain rfl := Option.some.inj hm
      refine xw_sub (pc := 3) _ ?_ (hc _ rfl)
      exact ⟨Or.inr rfl, Or.inr rfl, Or.inr rfl, Or.inr rfl, Or.inr rfl, trivial⟩
    · replace hm := xif_f q hm
      refine xw_iload_n (pc := 18) (i := 1) (x := x1) C dX4_allFit_18 rfl rfl ?_
      refine xw_aload_n (pc := 19) (i := 0) (x := x0) C dX4_allFit_19 rfl rfl ?_
      obtain ⟨v3, q4, hm⟩ := xbind hm
      refine xw_getR (pc := 20) C dX4_allFit_20 fl_X4_9 q4 ?_
      refine xw_iload (pc := 23) (i := 4) (x := x4) C dX4_allFit_23 rfl ?_
      obtain ⟨v5, q6, hm⟩ := xbind hm
      refine xw_callSN1 (pc := 25) (As := [.ref v3, .int x4]) (st := [.int x1]) C dX4_allFit_25 (wX8_at q6) dd_X8_at lk_X4_33 ds_X8_at rfl (Nat.le_of_ble_eq_true rfl) (Nat.le_of_ble_eq_true rfl) (Nat.le_of_ble_eq_true rfl) ⟨Nat.le_refl _, Nat.le_refl _⟩ hN ?_
      refine xw_imul (pc := 28) C dX4_allFit_28 ?_
      refine xw_aload_n (pc := 29) (i := 0) (x := x0) C dX4_allFit_29 rfl rfl ?_
      obtain ⟨v7, q8, hm⟩ := xbind hm
      refine xw_getR (pc := 30) C dX4_allFit_30 fl_X4_15 q8 ?_
      refine xw_iload (pc := 33) (i := 4) (x := x4) C dX4_allFit_33 rfl ?_
      obtain ⟨v9, q10, hm⟩ := xbind hm
      refine xw_callSN1 (pc := 35) (As := [.ref v7, .int x4]) (st := [.int (x1 * v5)]) C dX4_allFit_35 (wX8_at q10) dd_X8_at lk_X4_33 ds_X8_at rfl (Nat.le_of_ble_eq_true rfl) (Nat.le_of_ble_eq_true rfl) (Nat.le_of_ble_eq_true rfl) ⟨Nat.le_refl _, Nat.le_refl _⟩ hN ?_
      refine xw_isub (pc := 38) C dX4_allFit_38 ?_
      refine xw_iload_n (pc := 39) (i := 2) (x := x2) C dX4_allFit_39 rfl rfl ?_
      obtain ⟨v11, q12, hm⟩ := xbind hm
      refine xw_callSN1 (pc := 40) (As := [.int ((x1 * v5) - v9), .int x2]) (st := []) C dX4_allFit_40 (wX8_mod q12) dd_X8_mod lk_X4_37 ds_X8_mod rfl (Nat.le_of_ble_eq_true rfl) (Nat.le_of_ble_eq_true rfl) (Nat.le_of_ble_eq_true rfl) ⟨Nat.le_refl _, Nat.le_refl _⟩ hN ?_
      refine xw_if_eq (pc := 43) (tgt := 48) C dX4_allFit_43 (by decide) (fun q => ?_) (fun q => ?_)
      · replace hm := xif_t q hm
        refine xw_iinc (pc := 48) (i := 4) (x := x4) (v := (x4 + (1 : Int32))) (L' := [some (.ref x0), some (.int x1), some (.int x2), some (.int x3), some (.int (x4 + (1 : Int32)))]) C dX4_allFit_48 rfl (congrArg (HAdd.hAdd _) xk_i_1) (Nat.le_of_ble_eq_true rfl) rfl ?_
        refine xw_goto (pc := 51) (tgt := 3) C dX4_allFit_51 (by decide) ?_
        obtain rfl := Option.some.inj hm
        refine xw_sub (pc := 3) _ ?_ (hc _ rfl)
        exact ⟨Or.inr rfl, Or.inr rfl, Or.inr rfl, Or.inr rfl, Or.inr rfl, trivial⟩
      · replace hm := xif_f q hm
        obtain rfl := Option.some.inj hm
        refine xw_sub (pc := 46) _ ?_ (he _ rfl)
        exact ⟨Or.inl rfl, Or.inl rfl, Or.inl rfl, Or.inl rfl, Or.inl rfl, trivial⟩
set_option maxHeartbeats 4000000 in
set_option maxRecDepth 100000 in
theorem wX4_allFit {l : Launch} {n sl : Nat} {h : XH} {x0 : Nat} {x1 : Int32} {x2 : Int32} {x3 : Int32} {o : Bool} (hm : fX4_allFit h x0 x1 x2 x3 = some o) : XM l yX4_allFit cX4_allFit 5 (some .boolean) 1 22 [.ref x0, .int x1, .int x2, .int x3] h n sl (some (.int (xbi o))) h n sl := by
  refine xm_of pnX4 [some (.ref x0), some (.int x1), some (.int x2), some (.int x3), none] 1 rfl (Nat.le_of_ble_eq_true rfl) ?_
  intro X hT C
  replace C : XOK X RX4 cX4_allFit 5 "allFit" (some .boolean) 1 22 := C
  obtain ⟨-, hN, hX⟩ := hT
  unfold fX4_allFit at hm
  refine xw_iconst (pc := 0) (v := 0) C dX4_allFit_0 xk_i_0 ?_
  refine xw_istore (pc := 1) (i := 4) (x := (0 : Int32)) (L' := [some (.ref x0), some (.int x1), some (.int x2), some (.int x3), some (.int (0 : Int32))]) C dX4_allFit_1 (Nat.le_of_ble_eq_true rfl) rfl ?_
  obtain ⟨e13, q14, hm⟩ := xbind hm
  refine xw_sub (pc := 3) [some (.ref x0), some (.int x1), some (.int x2), some (.int x3), some (.int (0 : Int32))] ⟨Or.inr rfl, Or.inr rfl, Or.inr rfl, Or.inr rfl, Or.inr rfl, trivial⟩ ?_
  refine xloop_walk (fX4_allFit_B3 h x0 x1 x2 x3) (fX4_allFit_P3 X h x0 x1 x2 x3 n sl) (fX4_allFit_E3 X h x0 x1 x2 x3 n sl) (fun s' o' => fX4_allFit_B3_w C hN s' o') 5000 (0 : Int32) e13 q14 ?_
  rcases e13 with e13 | e13
  · dsimp only at hm
    show XW X 46 [none, none, none, none, none] [] h n sl
    refine xw_iconst (pc := 46) (v := 0) C dX4_allFit_46 xk_i_0 ?_
    obtain rfl := Option.some.inj hm
    exact xw_zreturn (pc := 47) (v := xbi false) C dX4_allFit_47 rfl (xbi_nar _) hX
  · dsimp only at hm
    show XW X 54 [none, none, none, none, none] [] h n sl
    refine xw_iconst (pc := 54) (v := 1) C dX4_allFit_54 xk_i_1 ?_
    obtain rfl := Option.some.inj hm
    exact xw_zreturn (pc := 55) (v := xbi true) C dX4_allFit_55 rfl (xbi_nar _) hX
def fX0_find_P21 (X : XCtx) (x0 : Nat) (x2 : Nat) (x3 : Int32) (n sl : Nat) (s : (XH × Int32)) : Prop := XW X 21 [some (.ref x0), none, some (.ref x2), some (.int x3), some (.int s.2)] [] s.1 n sl
def fX0_find_E21 (X : XCtx) (x0 : Nat) (x2 : Nat) (x3 : Int32) (n sl : Nat) (e : XH) : Prop := XW X 63 [none, none, none, none, none] [] e n sl
set_option maxHeartbeats 4000000 in
set_option maxRecDepth 100000 in
theorem fX0_find_B21_w {X : XCtx} (C : XOK X RX0 cX0_find 5 "find" none 2 46) {n sl : Nat} (hN : XN X n sl) {x0 : Nat} {x2 : Nat} {x3 : Int32} (s : (XH × Int32)) (o : (XH × Int32) ⊕ XH) (hm : fX0_find_B21 x0 x2 x3 s = some o) (hc : ∀ s', o = .inl s' → fX0_find_P21 X x0 x2 x3 n sl s') (he : ∀ e', o = .inr e' → fX0_find_E21 X x0 x2 x3 n sl e') : fX0_find_P21 X x0 x2 x3 n sl s := by
  obtain ⟨h, x4⟩ := s
  show XW X 21 [some (.ref x0), none, some (.ref x2), some (.int x3), some (.int x4)] [] h n sl
  replace hm : fX0_find_b21 x0 x2 x3 h x4 = some o := hm
  unfold fX0_find_b21 at hm
  refine xw_iload (pc := 21) (i := 4) (x := x4) C dX0_find_21 rfl ?_
  refine xw_aload_n (pc := 23) (i := 0) (x := x0) C dX0_find_23 rfl rfl ?_
  obtain ⟨v9, q10, hm⟩ := xbind hm
  refine xw_getI (pc := 24) C dX0_find_24 fl_X0_18 q10 ?_
  refine xw_icmp_ge (pc := 27) (tgt := 63) C dX0_find_27 (by decide) (fun q => ?_) (fun q => ?_)
  · replace hm := xif_t q hm
    obtain rfl := Option.some.inj hm
    refine xw_sub (pc := 63) _ ?_ (he _ rfl)
    exact ⟨Or.inl rfl, Or.inl rfl, Or.inl rfl, Or.inl rfl, Or.inl rfl, trivial⟩
  · replace hm := xif_f q hm
    refine xw_aload_n (pc := 30) (i := 2) (x := x2) C dX0_find_30 rfl rfl ?_
    refine xw_iload (pc := 31) (i := 4) (x := x4) C dX0_find_31 rfl ?_
    refine xw_aload_n (pc := 33) (i := 0) (x := x0) C dX0_find_33 rfl rfl ?_
    obtain ⟨v11, q12, hm⟩ := xbind hm
    refine xw_getI (pc := 34) C dX0_find_34 fl_X0_18 q12 ?_
    refine xw_iload_n (pc := 37) (i := 3) (x := x3) C dX0_find_37 rfl rfl ?_
    obtain ⟨_, q13, hm⟩ := xbind hm
    obtain ⟨v14, q15, hm⟩ := xbind hm
    refine xw_callV1 (pc := 38) (As := [.int x4, .int v11, .int x3]) (st := []) C dX0_find_38 (wX4_allFit q15) dd_X4_allFit lk_X0_32 dv_X4_allFit (xco_spec q13) rfl (Nat.le_of_ble_eq_true rfl) (Nat.le_of_ble_eq_true rfl) (Nat.le_of_ble_eq_true rfl) ⟨Nat.le_refl _, Nat.le_refl _⟩ hN ?_
    refine xw_if_eqZ (pc := 41) (b := v14) (tgt := 57) C dX0_find_41 (by decide) (fun q => ?_) (fun q => ?_)
    · replace hm := xif_f q hm
      refine xw_iinc (pc := 57) (i := 4) (x := x4) (v := (x4 + (1 : Int32))) (L' := [some (.ref x0), none, some (.ref x2), some (.int x3), some (.int (x4 + (1 : Int32)))]) C dX0_find_57 rfl (congrArg (HAdd.hAdd _) xk_i_1) (Nat.le_of_ble_eq_true rfl) rfl ?_
      refine xw_goto (pc := 60) (tgt := 21) C dX0_find_60 (by decide) ?_
      obtain rfl := Option.some.inj hm
      refine xw_sub (pc := 21) _ ?_ (hc _ rfl)
      exact ⟨Or.inr rfl, Or.inl rfl, Or.inr rfl, Or.inr rfl, Or.inr rfl, trivial⟩
    · replace hm := xif_t q hm
      refine xw_aload_n (pc := 44) (i := 0) (x := x0) C dX0_find_44 rfl rfl ?_
      refine xw_dup (pc := 45) C dX0_find_45 rfl ?_
      obtain ⟨v16, q17, hm⟩ := xbind hm
      refine xw_getJ (pc := 46) C dX0_find_46 fl_X0_28 q17 ?_
      refine xw_lconst (pc := 49) (v := 1) C dX0_find_49 xk_l_1 ?_
      refine xw_iload (pc := 50) (i := 4) (x := x4) C dX0_find_50 rfl ?_
      refine xw_lshl (pc := 52) C dX0_find_52 ?_
      refine xw_lor (pc := 53) C dX0_find_53 ?_
      obtain ⟨h18, q19, hm⟩ := xbind hm
      refine xw_put (pc := 54) C dX0_find_54 fl_X0_28 q19 (fun _ => rfl) (fun _ => rfl) ?_
      refine xw_iinc (pc := 57) (i := 4) (x := x4) (v := (x4 + (1 : Int32))) (L' := [some (.ref x0), none, some (.ref x2), some (.int x3), some (.int (x4 + (1 : Int32)))]) C dX0_find_57 rfl (congrArg (HAdd.hAdd _) xk_i_1) (Nat.le_of_ble_eq_true rfl) rfl ?_
      refine xw_goto (pc := 60) (tgt := 21) C dX0_find_60 (by decide) ?_
      obtain rfl := Option.some.inj hm
      refine xw_sub (pc := 21) _ ?_ (hc _ rfl)
      exact ⟨Or.inr rfl, Or.inl rfl, Or.inr rfl, Or.inr rfl, Or.inr rfl, trivial⟩
set_option maxHeartbeats 4000000 in
set_option maxRecDepth 100000 in
theorem wX0_find {l : Launch} {n sl : Nat} {h : XH} {x0 : Nat} {x1 : Int32} {x2 : Nat} {x3 : Int32} {o : XH} (hm : fX0_find h x0 x1 x2 x3 = some o) : XM l yX0_find cX0_find 5 none 2 46 [.ref x0, .int x1, .ref x2, .int x3] h n sl none o n sl := by
  refine xm_of pnX0 [some (.ref x0), some (.int x1), some (.ref x2), some (.int x3), none] 1 rfl (Nat.le_of_ble_eq_true rfl) ?_
  intro X hT C
  replace C : XOK X RX0 cX0_find 5 "find" none 2 46 := C
  obtain ⟨-, hN, hX⟩ := hT
  unfold fX0_find at hm
  refine xw_aload_n (pc := 0) (i := 0) (x := x0) C dX0_find_0 rfl rfl ?_
  refine xw_iload_n (pc := 1) (i := 1) (x := x1) C dX0_find_1 rfl rfl ?_
  obtain ⟨h1, q2, hm⟩ := xbind hm
  refine xw_put (pc := 2) C dX0_find_2 fl_X0_18 q2 (fun _ => rfl) (fun _ => rfl) ?_
  refine xw_aload_n (pc := 5) (i := 0) (x := x0) C dX0_find_5 rfl rfl ?_
  refine xw_aload_n (pc := 6) (i := 2) (x := x2) C dX0_find_6 rfl rfl ?_
  obtain ⟨v3, q4, hm⟩ := xbind hm
  refine xw_getI (pc := 7) C dX0_find_7 fl_X0_22 q4 ?_
  obtain ⟨h5, q6, hm⟩ := xbind hm
  refine xw_put (pc := 10) C dX0_find_10 fl_X0_27 q6 (fun _ => rfl) (fun _ => rfl) ?_
  refine xw_aload_n (pc := 13) (i := 0) (x := x0) C dX0_find_13 rfl rfl ?_
  refine xw_lconst (pc := 14) (v := 0) C dX0_find_14 xk_l_0 ?_
  obtain ⟨h7, q8, hm⟩ := xbind hm
  refine xw_put (pc := 15) C dX0_find_15 fl_X0_28 q8 (fun _ => rfl) (fun _ => rfl) ?_
  refine xw_iconst (pc := 18) (v := 0) C dX0_find_18 xk_i_0 ?_
  refine xw_istore (pc := 19) (i := 4) (x := (0 : Int32)) (L' := [some (.ref x0), some (.int x1), some (.ref x2), some (.int x3), some (.int (0 : Int32))]) C dX0_find_19 (Nat.le_of_ble_eq_true rfl) rfl ?_
  obtain ⟨e20, q21, hm⟩ := xbind hm
  refine xw_sub (pc := 21) [some (.ref x0), none, some (.ref x2), some (.int x3), some (.int (0 : Int32))] ⟨Or.inr rfl, Or.inl rfl, Or.inr rfl, Or.inr rfl, Or.inr rfl, trivial⟩ ?_
  refine xloop_walk (fX0_find_B21 x0 x2 x3) (fX0_find_P21 X x0 x2 x3 n sl) (fX0_find_E21 X x0 x2 x3 n sl) (fun s' o' => fX0_find_B21_w C hN s' o') 5000 (h7, (0 : Int32)) e20 q21 ?_
  show XW X 63 [none, none, none, none, none] [] e20 n sl
  obtain rfl := Option.some.inj hm
  exact xw_return (pc := 63) C dX0_find_63 rfl hX
def fX0_inOrder_P8 (X : XCtx) (h : XH) (x0 : Nat) (x1 : Int32) (n sl : Nat) (s : (Int32 × Int32)) : Prop := XW X 8 [some (.ref x0), some (.int x1), some (.int s.1), some (.int s.2)] [] h n sl
def fX0_inOrder_E8 (X : XCtx) (h : XH) (x0 : Nat) (x1 : Int32) (n sl : Nat) (e : (Int32 ⊕ Unit)) : Prop := match e with
  | .inl e => XW X 29 [none, none, none, some (.int e)] [] h n sl
  | .inr e => XW X 40 [none, none, none, none] [] h n sl
set_option maxHeartbeats 4000000 in
set_option maxRecDepth 100000 in
theorem fX0_inOrder_B8_w {X : XCtx} (C : XOK X RX0 cX0_inOrder 4 "inOrder" (some .int) 2 43) {n sl : Nat} (hN : XN X n sl) {h : XH} {x0 : Nat} {x1 : Int32} (s : (Int32 × Int32)) (o : (Int32 × Int32) ⊕ (Int32 ⊕ Unit)) (hm : fX0_inOrder_B8 h x0 x1 s = some o) (hc : ∀ s', o = .inl s' → fX0_inOrder_P8 X h x0 x1 n sl s') (he : ∀ e', o = .inr e' → fX0_inOrder_E8 X h x0 x1 n sl e') : fX0_inOrder_P8 X h x0 x1 n sl s := by
  obtain ⟨x2, x3⟩ := s
  show XW X 8 [some (.ref x0), some (.int x1), some (.int x2), some (.int x3)] [] h n sl
  replace hm : fX0_inOrder_b8 h x0 x1 x2 x3 = some o := hm
  unfold fX0_inOrder_b8 at hm
  refine xw_iload_n (pc := 8) (i := 3) (x := x3) C dX0_inOrder_8 rfl rfl ?_
  refine xw_aload_n (pc := 9) (i := 0) (x := x0) C dX0_inOrder_9 rfl rfl ?_
  obtain ⟨v3, q4, hm⟩ := xbind hm
  refine xw_getI (pc := 10) C dX0_inOrder_10 fl_X0_27 q4 ?_
  refine xw_icmp_gt (pc := 13) (tgt := 40) C dX0_inOrder_13 (by decide) (fun q => ?_) (fun q => ?_)
  · replace hm := xif_t q hm
    obtain rfl := Option.some.inj hm
    refine xw_sub (pc := 40) _ ?_ (he _ rfl)
    exact ⟨Or.inl rfl, Or.inl rfl, Or.inl rfl, Or.inl rfl, trivial⟩
  · replace hm := xif_f q hm
    refine xw_aload_n (pc := 16) (i := 0) (x := x0) C dX0_inOrder_16 rfl rfl ?_
    refine xw_iload_n (pc := 17) (i := 3) (x := x3) C dX0_inOrder_17 rfl rfl ?_
    obtain ⟨_, q5, hm⟩ := xbind hm
    obtain ⟨v6, q7, hm⟩ := xbind hm
    refine xw_callV1 (pc := 18) (As := [.int x3]) (st := []) C dX0_inOrder_18 (wX0_has q7) dd_X0_has lk_X0_44 dv_X0_has (xco_spec q5) rfl (Nat.le_of_ble_eq_true rfl) (Nat.le_of_ble_eq_true rfl) (Nat.le_of_ble_eq_true rfl) ⟨Nat.le_refl _, Nat.le_refl _⟩ hN ?_
    refine xw_if_eqZ (pc := 21) (b := v6) (tgt := 34) C dX0_inOrder_21 (by decide) (fun q => ?_) (fun q => ?_)
    · replace hm := xif_f q hm
      refine xw_iinc (pc := 34) (i := 3) (x := x3) (v := (x3 + (1 : Int32))) (L' := [some (.ref x0), some (.int x1), some (.int x2), some (.int (x3 + (1 : Int32)))]) C dX0_inOrder_34 rfl (congrArg (HAdd.hAdd _) xk_i_1) (Nat.le_of_ble_eq_true rfl) rfl ?_
      refine xw_goto (pc := 37) (tgt := 8) C dX0_inOrder_37 (by decide) ?_
      obtain rfl := Option.some.inj hm
      refine xw_sub (pc := 8) _ ?_ (hc _ rfl)
      exact ⟨Or.inr rfl, Or.inr rfl, Or.inr rfl, Or.inr rfl, trivial⟩
    · replace hm := xif_t q hm
      refine xw_iload_n (pc := 24) (i := 2) (x := x2) C dX0_inOrder_24 rfl rfl ?_
      refine xw_iload_n (pc := 25) (i := 1) (x := x1) C dX0_inOrder_25 rfl rfl ?_
      refine xw_icmp_ne (pc := 26) (tgt := 31) C dX0_inOrder_26 (by decide) (fun q => ?_) (fun q => ?_)
      · replace hm := xif_f q hm
        refine xw_iinc (pc := 31) (i := 2) (x := x2) (v := (x2 + (1 : Int32))) (L' := [some (.ref x0), some (.int x1), some (.int (x2 + (1 : Int32))), some (.int x3)]) C dX0_inOrder_31 rfl (congrArg (HAdd.hAdd _) xk_i_1) (Nat.le_of_ble_eq_true rfl) rfl ?_
        refine xw_iinc (pc := 34) (i := 3) (x := x3) (v := (x3 + (1 : Int32))) (L' := [some (.ref x0), some (.int x1), some (.int (x2 + (1 : Int32))), some (.int (x3 + (1 : Int32)))]) C dX0_inOrder_34 rfl (congrArg (HAdd.hAdd _) xk_i_1) (Nat.le_of_ble_eq_true rfl) rfl ?_
        refine xw_goto (pc := 37) (tgt := 8) C dX0_inOrder_37 (by decide) ?_
        obtain rfl := Option.some.inj hm
        refine xw_sub (pc := 8) _ ?_ (hc _ rfl)
        exact ⟨Or.inr rfl, Or.inr rfl, Or.inr rfl, Or.inr rfl, trivial⟩
      · replace hm := xif_t q hm
        obtain rfl := Option.some.inj hm
        refine xw_sub (pc := 29) _ ?_ (he _ rfl)
        exact ⟨Or.inl rfl, Or.inl rfl, Or.inl rfl, Or.inr rfl, trivial⟩
set_option maxHeartbeats 4000000 in
set_option maxRecDepth 100000 in
theorem wX0_inOrder {l : Launch} {n sl : Nat} {h : XH} {x0 : Nat} {x1 : Int32} {o : Int32} (hm : fX0_inOrder h x0 x1 = some o) : XM l yX0_inOrder cX0_inOrder 4 (some .int) 2 43 [.ref x0, .int x1] h n sl (some (.int o)) h n sl := by
  refine xm_of pnX0 [some (.ref x0), some (.int x1), none, none] 2 rfl (Nat.le_of_ble_eq_true rfl) ?_
  intro X hT C
  replace C : XOK X RX0 cX0_inOrder 4 "inOrder" (some .int) 2 43 := C
  obtain ⟨-, hN, hX⟩ := hT
  unfold fX0_inOrder at hm
  refine xw_iconst (pc := 0) (v := 0) C dX0_inOrder_0 xk_i_0 ?_
  refine xw_istore_n (pc := 1) (i := 2) (x := (0 : Int32)) (L' := [some (.ref x0), some (.int x1), some (.int (0 : Int32)), none]) C dX0_inOrder_1 rfl (Nat.le_of_ble_eq_true rfl) rfl ?_
  refine xw_aload_n (pc := 2) (i := 0) (x := x0) C dX0_inOrder_2 rfl rfl ?_
  obtain ⟨v1, q2, hm⟩ := xbind hm
  refine xw_getI (pc := 3) C dX0_inOrder_3 fl_X0_27 q2 ?_
  refine xw_ineg (pc := 6) C dX0_inOrder_6 ?_
  refine xw_istore_n (pc := 7) (i := 3) (x := (-v1)) (L' := [some (.ref x0), some (.int x1), some (.int (0 : Int32)), some (.int (-v1))]) C dX0_inOrder_7 rfl (Nat.le_of_ble_eq_true rfl) rfl ?_
  obtain ⟨e8, q9, hm⟩ := xbind hm
  refine xw_sub (pc := 8) [some (.ref x0), some (.int x1), some (.int (0 : Int32)), some (.int (-v1))] ⟨Or.inr rfl, Or.inr rfl, Or.inr rfl, Or.inr rfl, trivial⟩ ?_
  refine xloop_walk (fX0_inOrder_B8 h x0 x1) (fX0_inOrder_P8 X h x0 x1 n sl) (fX0_inOrder_E8 X h x0 x1 n sl) (fun s' o' => fX0_inOrder_B8_w C hN s' o') 5000 ((0 : Int32), (-v1)) e8 q9 ?_
  rcases e8 with e8 | e8
  · dsimp only at hm
    show XW X 29 [none, none, none, some (.int e8)] [] h n sl
    refine xw_iload_n (pc := 29) (i := 3) (x := e8) C dX0_inOrder_29 rfl rfl ?_
    obtain rfl := Option.some.inj hm
    exact xw_ireturn (pc := 30) C dX0_inOrder_30 rfl hX
  · dsimp only at hm
    show XW X 40 [none, none, none, none] [] h n sl
    refine xw_sipush (pc := 40) (v := -1004) C dX0_inOrder_40 xk_s_m1004 ?_
    obtain rfl := Option.some.inj hm
    exact xw_ireturn (pc := 43) C dX0_inOrder_43 rfl hX
set_option maxHeartbeats 4000000 in
set_option maxRecDepth 100000 in
theorem wX0_init {l : Launch} {n sl : Nat} {h : XH} {x0 : Nat} {o : XH} (hm : fX0_init h n x0 = some o) : XM l yX0_init cX0_init 1 none 1 20 [.ref x0] h n sl none o (n + 2) (sl + 120) := by
  refine xm_of pnX0 [some (.ref x0)] 0 rfl (Nat.le_of_ble_eq_true rfl) ?_
  intro X hT C
  replace C : XOK X RX0 cX0_init 1 "<init>" none 1 20 := C
  obtain ⟨-, hN, hX⟩ := hT
  unfold fX0_init at hm
  refine xw_aload_n (pc := 0) (i := 0) (x := x0) C dX0_init_0 rfl rfl ?_
  refine xw_objInit (pc := 1) C dX0_init_1 lk_X0_3 oi_inst oi_code (Nat.le_of_ble_eq_true rfl) (Nat.le_of_ble_eq_true rfl) ?_
  refine xw_aload_n (pc := 4) (i := 0) (x := x0) C dX0_init_4 rfl rfl ?_
  refine xw_bipush (pc := 5) (v := 60) C dX0_init_5 xk_b_60 ?_
  obtain ⟨h1, q2, hm⟩ := xbind hm
  refine xw_newIB (pc := 7) (N := 60) C dX0_init_7 ar_int (by decide) (by decide) (Nat.le_of_ble_eq_true rfl) ⟨by have := hN.1; omega, by have := hN.2; omega⟩ q2 ?_
  obtain ⟨h3, q4, hm⟩ := xbind hm
  refine xw_putF (pc := 9) C dX0_init_9 fl_X0_9 q4 rfl rfl (fun _ => rfl) (fun _ => rfl) ?_
  refine xw_aload_n (pc := 12) (i := 0) (x := x0) C dX0_init_12 rfl rfl ?_
  refine xw_bipush (pc := 13) (v := 60) C dX0_init_13 xk_b_60 ?_
  obtain ⟨h5, q6, hm⟩ := xbind hm
  refine xw_newIB (pc := 15) (N := 60) C dX0_init_15 ar_int (by decide) (by decide) (Nat.le_of_ble_eq_true rfl) ⟨by have := hN.1; omega, by have := hN.2; omega⟩ q6 ?_
  obtain ⟨h7, q8, hm⟩ := xbind hm
  refine xw_putF (pc := 17) C dX0_init_17 fl_X0_15 q8 rfl rfl (fun _ => rfl) (fun _ => rfl) ?_
  obtain rfl := Option.some.inj hm
  exact xw_return (pc := 20) C dX0_init_20 rfl hX
def fX0_nearestTo_P13 (X : XCtx) (h : XH) (x0 : Nat) (x1 : Int32) (n sl : Nat) (s : (Int32 × Int32 × Int32)) : Prop := XW X 13 [some (.ref x0), some (.int x1), some (.int s.1), some (.int s.2.1), some (.int s.2.2), none] [] h n sl
def fX0_nearestTo_E13 (X : XCtx) (h : XH) (x0 : Nat) (x1 : Int32) (n sl : Nat) (e : Int32) : Prop := XW X 65 [none, none, some (.int e), none, none, none] [] h n sl
set_option maxHeartbeats 4000000 in
set_option maxRecDepth 100000 in
theorem fX0_nearestTo_J44_w {X : XCtx} (C : XOK X RX0 cX0_nearestTo 6 "nearestTo" (some .int) 2 43) {n sl : Nat} (hN : XN X n sl)  {h : XH} {x0 : Nat} {x1 : Int32} {x2 : Int32} {x3 : Int32} {x4 : Int32} {x5 : Int32} {o : (Int32 × Int32 × Int32) ⊕ Int32} (hm : fX0_nearestTo_J44 h x0 x1 x2 x3 x4 x5 = some o) (hc : ∀ s', o = .inl s' → fX0_nearestTo_P13 X h x0 x1 n sl s') (he : ∀ e', o = .inr e' → fX0_nearestTo_E13 X h x0 x1 n sl e') : XW X 44 [some (.ref x0), some (.int x1), some (.int x2), some (.int x3), some (.int x4), some (.int x5)] [] h n sl := by
  unfold fX0_nearestTo_J44 at hm
  refine xw_aload_n (pc := 44) (i := 0) (x := x0) C dX0_nearestTo_44 rfl rfl ?_
  refine xw_iload (pc := 45) (i := 4) (x := x4) C dX0_nearestTo_45 rfl ?_
  obtain ⟨_, q5, hm⟩ := xbind hm
  obtain ⟨v6, q7, hm⟩ := xbind hm
  refine xw_callV1 (pc := 47) (As := [.int x4]) (st := []) C dX0_nearestTo_47 (wX0_has q7) dd_X0_has lk_X0_44 dv_X0_has (xco_spec q5) rfl (Nat.le_of_ble_eq_true rfl) (Nat.le_of_ble_eq_true rfl) (Nat.le_of_ble_eq_true rfl) ⟨Nat.le_refl _, Nat.le_refl _⟩ hN ?_
  refine xw_if_eqZ (pc := 50) (b := v6) (tgt := 59) C dX0_nearestTo_50 (by decide) (fun q => ?_) (fun q => ?_)
  · replace hm := xif_f q hm
    refine xw_iinc (pc := 59) (i := 4) (x := x4) (v := (x4 + (1 : Int32))) (L' := [some (.ref x0), some (.int x1), some (.int x2), some (.int x3), some (.int (x4 + (1 : Int32))), some (.int x5)]) C dX0_nearestTo_59 rfl (congrArg (HAdd.hAdd _) xk_i_1) (Nat.le_of_ble_eq_true rfl) rfl ?_
    refine xw_goto (pc := 62) (tgt := 13) C dX0_nearestTo_62 (by decide) ?_
    obtain rfl := Option.some.inj hm
    refine xw_sub (pc := 13) _ ?_ (hc _ rfl)
    exact ⟨Or.inr rfl, Or.inr rfl, Or.inr rfl, Or.inr rfl, Or.inr rfl, Or.inl rfl, trivial⟩
  · replace hm := xif_t q hm
    refine xw_iload (pc := 53) (i := 5) (x := x5) C dX0_nearestTo_53 rfl ?_
    refine xw_istore_n (pc := 55) (i := 3) (x := x5) (L' := [some (.ref x0), some (.int x1), some (.int x2), some (.int x5), some (.int x4), some (.int x5)]) C dX0_nearestTo_55 rfl (Nat.le_of_ble_eq_true rfl) rfl ?_
    refine xw_iload (pc := 56) (i := 4) (x := x4) C dX0_nearestTo_56 rfl ?_
    refine xw_istore_n (pc := 58) (i := 2) (x := x4) (L' := [some (.ref x0), some (.int x1), some (.int x4), some (.int x5), some (.int x4), some (.int x5)]) C dX0_nearestTo_58 rfl (Nat.le_of_ble_eq_true rfl) rfl ?_
    refine xw_iinc (pc := 59) (i := 4) (x := x4) (v := (x4 + (1 : Int32))) (L' := [some (.ref x0), some (.int x1), some (.int x4), some (.int x5), some (.int (x4 + (1 : Int32))), some (.int x5)]) C dX0_nearestTo_59 rfl (congrArg (HAdd.hAdd _) xk_i_1) (Nat.le_of_ble_eq_true rfl) rfl ?_
    refine xw_goto (pc := 62) (tgt := 13) C dX0_nearestTo_62 (by decide) ?_
    obtain rfl := Option.some.inj hm
    refine xw_sub (pc := 13) _ ?_ (hc _ rfl)
    exact ⟨Or.inr rfl, Or.inr rfl, Or.inr rfl, Or.inr rfl, Or.inr rfl, Or.inl rfl, trivial⟩
set_option maxHeartbeats 4000000 in
set_option maxRecDepth 100000 in
theorem fX0_nearestTo_B13_w {X : XCtx} (C : XOK X RX0 cX0_nearestTo 6 "nearestTo" (some .int) 2 43) {n sl : Nat} (hN : XN X n sl) {h : XH} {x0 : Nat} {x1 : Int32} (s : (Int32 × Int32 × Int32)) (o : (Int32 × Int32 × Int32) ⊕ Int32) (hm : fX0_nearestTo_B13 h x0 x1 s = some o) (hc : ∀ s', o = .inl s' → fX0_nearestTo_P13 X h x0 x1 n sl s') (he : ∀ e', o = .inr e' → fX0_nearestTo_E13 X h x0 x1 n sl e') : fX0_nearestTo_P13 X h x0 x1 n sl s := by
  obtain ⟨x2, x3, x4⟩ := s
  show XW X 13 [some (.ref x0), some (.int x1), some (.int x2), some (.int x3), some (.int x4), none] [] h n sl
  replace hm : fX0_nearestTo_b13 h x0 x1 x2 x3 x4 = some o := hm
  unfold fX0_nearestTo_b13 at hm
  refine xw_iload (pc := 13) (i := 4) (x := x4) C dX0_nearestTo_13 rfl ?_
  refine xw_aload_n (pc := 15) (i := 0) (x := x0) C dX0_nearestTo_15 rfl rfl ?_
  obtain ⟨v3, q4, hm⟩ := xbind hm
  refine xw_getI (pc := 16) C dX0_nearestTo_16 fl_X0_27 q4 ?_
  refine xw_icmp_gt (pc := 19) (tgt := 65) C dX0_nearestTo_19 (by decide) (fun q => ?_) (fun q => ?_)
  · replace hm := xif_t q hm
    obtain rfl := Option.some.inj hm
    refine xw_sub (pc := 65) _ ?_ (he _ rfl)
    exact ⟨Or.inl rfl, Or.inl rfl, Or.inr rfl, Or.inl rfl, Or.inl rfl, Or.inl rfl, trivial⟩
  · replace hm := xif_f q hm
    refine xw_iload (pc := 22) (i := 4) (x := x4) C dX0_nearestTo_22 rfl ?_
    refine xw_iload_n (pc := 24) (i := 1) (x := x1) C dX0_nearestTo_24 rfl rfl ?_
    refine xw_isub (pc := 25) C dX0_nearestTo_25 ?_
    refine xw_mabs (pc := 26) C dX0_nearestTo_26 lk_X0_48 ds_J9_abs_0f7a4 dd_J9_abs_0f7a4 (Nat.le_of_ble_eq_true rfl) (Nat.le_of_ble_eq_true rfl) hN ?_
    refine xw_istore (pc := 29) (i := 5) (x := (xmabs (x4 - x1))) (L' := [some (.ref x0), some (.int x1), some (.int x2), some (.int x3), some (.int x4), some (.int (xmabs (x4 - x1)))]) C dX0_nearestTo_29 (Nat.le_of_ble_eq_true rfl) rfl ?_
    refine xw_iload_n (pc := 31) (i := 2) (x := x2) C dX0_nearestTo_31 rfl rfl ?_
    refine xw_sipush (pc := 32) (v := -1004) C dX0_nearestTo_32 xk_s_m1004 ?_
    refine xw_icmp_eq (pc := 35) (tgt := 44) C dX0_nearestTo_35 (by decide) (fun q => ?_) (fun q => ?_)
    · replace hm := xif_t q hm
      exact xw_sub (pc := 44) [some (.ref x0), some (.int x1), some (.int x2), some (.int x3), some (.int x4), some (.int (xmabs (x4 - x1)))] ⟨Or.inr rfl, Or.inr rfl, Or.inr rfl, Or.inr rfl, Or.inr rfl, Or.inr rfl, trivial⟩ (fX0_nearestTo_J44_w C hN hm hc he)
    · replace hm := xif_f q hm
      refine xw_iload (pc := 38) (i := 5) (x := (xmabs (x4 - x1))) C dX0_nearestTo_38 rfl ?_
      refine xw_iload_n (pc := 40) (i := 3) (x := x3) C dX0_nearestTo_40 rfl rfl ?_
      refine xw_icmp_ge (pc := 41) (tgt := 59) C dX0_nearestTo_41 (by decide) (fun q => ?_) (fun q => ?_)
      · replace hm := xif_t q hm
        refine xw_iinc (pc := 59) (i := 4) (x := x4) (v := (x4 + (1 : Int32))) (L' := [some (.ref x0), some (.int x1), some (.int x2), some (.int x3), some (.int (x4 + (1 : Int32))), some (.int (xmabs (x4 - x1)))]) C dX0_nearestTo_59 rfl (congrArg (HAdd.hAdd _) xk_i_1) (Nat.le_of_ble_eq_true rfl) rfl ?_
        refine xw_goto (pc := 62) (tgt := 13) C dX0_nearestTo_62 (by decide) ?_
        obtain rfl := Option.some.inj hm
        refine xw_sub (pc := 13) _ ?_ (hc _ rfl)
        exact ⟨Or.inr rfl, Or.inr rfl, Or.inr rfl, Or.inr rfl, Or.inr rfl, Or.inl rfl, trivial⟩
      · replace hm := xif_f q hm
        exact xw_sub (pc := 44) [some (.ref x0), some (.int x1), some (.int x2), some (.int x3), some (.int x4), some (.int (xmabs (x4 - x1)))] ⟨Or.inr rfl, Or.inr rfl, Or.inr rfl, Or.inr rfl, Or.inr rfl, Or.inr rfl, trivial⟩ (fX0_nearestTo_J44_w C hN hm hc he)
set_option maxHeartbeats 4000000 in
set_option maxRecDepth 100000 in
theorem wX0_nearestTo {l : Launch} {n sl : Nat} {h : XH} {x0 : Nat} {x1 : Int32} {o : Int32} (hm : fX0_nearestTo h x0 x1 = some o) : XM l yX0_nearestTo cX0_nearestTo 6 (some .int) 2 43 [.ref x0, .int x1] h n sl (some (.int o)) h n sl := by
  refine xm_of pnX0 [some (.ref x0), some (.int x1), none, none, none, none] 4 rfl (Nat.le_of_ble_eq_true rfl) ?_
  intro X hT C
  replace C : XOK X RX0 cX0_nearestTo 6 "nearestTo" (some .int) 2 43 := C
  obtain ⟨-, hN, hX⟩ := hT
  unfold fX0_nearestTo at hm
  refine xw_sipush (pc := 0) (v := -1004) C dX0_nearestTo_0 xk_s_m1004 ?_
  refine xw_istore_n (pc := 3) (i := 2) (x := (-1004 : Int32)) (L' := [some (.ref x0), some (.int x1), some (.int (-1004 : Int32)), none, none, none]) C dX0_nearestTo_3 rfl (Nat.le_of_ble_eq_true rfl) rfl ?_
  refine xw_iconst (pc := 4) (v := 0) C dX0_nearestTo_4 xk_i_0 ?_
  refine xw_istore_n (pc := 5) (i := 3) (x := (0 : Int32)) (L' := [some (.ref x0), some (.int x1), some (.int (-1004 : Int32)), some (.int (0 : Int32)), none, none]) C dX0_nearestTo_5 rfl (Nat.le_of_ble_eq_true rfl) rfl ?_
  refine xw_aload_n (pc := 6) (i := 0) (x := x0) C dX0_nearestTo_6 rfl rfl ?_
  obtain ⟨v1, q2, hm⟩ := xbind hm
  refine xw_getI (pc := 7) C dX0_nearestTo_7 fl_X0_27 q2 ?_
  refine xw_ineg (pc := 10) C dX0_nearestTo_10 ?_
  refine xw_istore (pc := 11) (i := 4) (x := (-v1)) (L' := [some (.ref x0), some (.int x1), some (.int (-1004 : Int32)), some (.int (0 : Int32)), some (.int (-v1)), none]) C dX0_nearestTo_11 (Nat.le_of_ble_eq_true rfl) rfl ?_
  obtain ⟨e8, q9, hm⟩ := xbind hm
  refine xw_sub (pc := 13) [some (.ref x0), some (.int x1), some (.int (-1004 : Int32)), some (.int (0 : Int32)), some (.int (-v1)), none] ⟨Or.inr rfl, Or.inr rfl, Or.inr rfl, Or.inr rfl, Or.inr rfl, Or.inl rfl, trivial⟩ ?_
  refine xloop_walk (fX0_nearestTo_B13 h x0 x1) (fX0_nearestTo_P13 X h x0 x1 n sl) (fX0_nearestTo_E13 X h x0 x1 n sl) (fun s' o' => fX0_nearestTo_B13_w C hN s' o') 5000 ((-1004 : Int32), (0 : Int32), (-v1)) e8 q9 ?_
  show XW X 65 [none, none, some (.int e8), none, none, none] [] h n sl
  refine xw_iload_n (pc := 65) (i := 2) (x := e8) C dX0_nearestTo_65 rfl rfl ?_
  obtain rfl := Option.some.inj hm
  exact xw_ireturn (pc := 66) C dX0_nearestTo_66 rfl hX
def fX0_number_P8 (X : XCtx) (h : XH) (x0 : Nat) (n sl : Nat) (s : (Int32 × Int32)) : Prop := XW X 8 [some (.ref x0), some (.int s.1), some (.int s.2)] [] h n sl
def fX0_number_E8 (X : XCtx) (h : XH) (x0 : Nat) (n sl : Nat) (e : Int32) : Prop := XW X 33 [none, some (.int e), none] [] h n sl
set_option maxHeartbeats 4000000 in
set_option maxRecDepth 100000 in
theorem fX0_number_B8_w {X : XCtx} (C : XOK X RX0 cX0_number 3 "number" (some .int) 2 43) {n sl : Nat} (hN : XN X n sl) {h : XH} {x0 : Nat} (s : (Int32 × Int32)) (o : (Int32 × Int32) ⊕ Int32) (hm : fX0_number_B8 h x0 s = some o) (hc : ∀ s', o = .inl s' → fX0_number_P8 X h x0 n sl s') (he : ∀ e', o = .inr e' → fX0_number_E8 X h x0 n sl e') : fX0_number_P8 X h x0 n sl s := by
  obtain ⟨x1, x2⟩ := s
  show XW X 8 [some (.ref x0), some (.int x1), some (.int x2)] [] h n sl
  replace hm : fX0_number_b8 h x0 x1 x2 = some o := hm
  unfold fX0_number_b8 at hm
  refine xw_iload_n (pc := 8) (i := 2) (x := x2) C dX0_number_8 rfl rfl ?_
  refine xw_aload_n (pc := 9) (i := 0) (x := x0) C dX0_number_9 rfl rfl ?_
  obtain ⟨v3, q4, hm⟩ := xbind hm
  refine xw_getI (pc := 10) C dX0_number_10 fl_X0_27 q4 ?_
  refine xw_icmp_gt (pc := 13) (tgt := 33) C dX0_number_13 (by decide) (fun q => ?_) (fun q => ?_)
  · replace hm := xif_t q hm
    obtain rfl := Option.some.inj hm
    refine xw_sub (pc := 33) _ ?_ (he _ rfl)
    exact ⟨Or.inl rfl, Or.inr rfl, Or.inl rfl, trivial⟩
  · replace hm := xif_f q hm
    refine xw_aload_n (pc := 16) (i := 0) (x := x0) C dX0_number_16 rfl rfl ?_
    refine xw_iload_n (pc := 17) (i := 2) (x := x2) C dX0_number_17 rfl rfl ?_
    obtain ⟨_, q5, hm⟩ := xbind hm
    obtain ⟨v6, q7, hm⟩ := xbind hm
    refine xw_callV1 (pc := 18) (As := [.int x2]) (st := []) C dX0_number_18 (wX0_has q7) dd_X0_has lk_X0_44 dv_X0_has (xco_spec q5) rfl (Nat.le_of_ble_eq_true rfl) (Nat.le_of_ble_eq_true rfl) (Nat.le_of_ble_eq_true rfl) ⟨Nat.le_refl _, Nat.le_refl _⟩ hN ?_
    refine xw_if_eqZ (pc := 21) (b := v6) (tgt := 27) C dX0_number_21 (by decide) (fun q => ?_) (fun q => ?_)
    · replace hm := xif_f q hm
      refine xw_iinc (pc := 27) (i := 2) (x := x2) (v := (x2 + (1 : Int32))) (L' := [some (.ref x0), some (.int x1), some (.int (x2 + (1 : Int32)))]) C dX0_number_27 rfl (congrArg (HAdd.hAdd _) xk_i_1) (Nat.le_of_ble_eq_true rfl) rfl ?_
      refine xw_goto (pc := 30) (tgt := 8) C dX0_number_30 (by decide) ?_
      obtain rfl := Option.some.inj hm
      refine xw_sub (pc := 8) _ ?_ (hc _ rfl)
      exact ⟨Or.inr rfl, Or.inr rfl, Or.inr rfl, trivial⟩
    · replace hm := xif_t q hm
      refine xw_iinc (pc := 24) (i := 1) (x := x1) (v := (x1 + (1 : Int32))) (L' := [some (.ref x0), some (.int (x1 + (1 : Int32))), some (.int x2)]) C dX0_number_24 rfl (congrArg (HAdd.hAdd _) xk_i_1) (Nat.le_of_ble_eq_true rfl) rfl ?_
      refine xw_iinc (pc := 27) (i := 2) (x := x2) (v := (x2 + (1 : Int32))) (L' := [some (.ref x0), some (.int (x1 + (1 : Int32))), some (.int (x2 + (1 : Int32)))]) C dX0_number_27 rfl (congrArg (HAdd.hAdd _) xk_i_1) (Nat.le_of_ble_eq_true rfl) rfl ?_
      refine xw_goto (pc := 30) (tgt := 8) C dX0_number_30 (by decide) ?_
      obtain rfl := Option.some.inj hm
      refine xw_sub (pc := 8) _ ?_ (hc _ rfl)
      exact ⟨Or.inr rfl, Or.inr rfl, Or.inr rfl, trivial⟩
set_option maxHeartbeats 4000000 in
set_option maxRecDepth 100000 in
theorem wX0_number {l : Launch} {n sl : Nat} {h : XH} {x0 : Nat} {o : Int32} (hm : fX0_number h x0 = some o) : XM l yX0_number cX0_number 3 (some .int) 2 43 [.ref x0] h n sl (some (.int o)) h n sl := by
  refine xm_of pnX0 [some (.ref x0), none, none] 2 rfl (Nat.le_of_ble_eq_true rfl) ?_
  intro X hT C
  replace C : XOK X RX0 cX0_number 3 "number" (some .int) 2 43 := C
  obtain ⟨-, hN, hX⟩ := hT
  unfold fX0_number at hm
  refine xw_iconst (pc := 0) (v := 0) C dX0_number_0 xk_i_0 ?_
  refine xw_istore_n (pc := 1) (i := 1) (x := (0 : Int32)) (L' := [some (.ref x0), some (.int (0 : Int32)), none]) C dX0_number_1 rfl (Nat.le_of_ble_eq_true rfl) rfl ?_
  refine xw_aload_n (pc := 2) (i := 0) (x := x0) C dX0_number_2 rfl rfl ?_
  obtain ⟨v1, q2, hm⟩ := xbind hm
  refine xw_getI (pc := 3) C dX0_number_3 fl_X0_27 q2 ?_
  refine xw_ineg (pc := 6) C dX0_number_6 ?_
  refine xw_istore_n (pc := 7) (i := 2) (x := (-v1)) (L' := [some (.ref x0), some (.int (0 : Int32)), some (.int (-v1))]) C dX0_number_7 rfl (Nat.le_of_ble_eq_true rfl) rfl ?_
  obtain ⟨e8, q9, hm⟩ := xbind hm
  refine xw_sub (pc := 8) [some (.ref x0), some (.int (0 : Int32)), some (.int (-v1))] ⟨Or.inr rfl, Or.inr rfl, Or.inr rfl, trivial⟩ ?_
  refine xloop_walk (fX0_number_B8 h x0) (fX0_number_P8 X h x0 n sl) (fX0_number_E8 X h x0 n sl) (fun s' o' => fX0_number_B8_w C hN s' o') 5000 ((0 : Int32), (-v1)) e8 q9 ?_
  show XW X 33 [none, some (.int e8), none] [] h n sl
  refine xw_iload_n (pc := 33) (i := 1) (x := e8) C dX0_number_33 rfl rfl ?_
  obtain rfl := Option.some.inj hm
  exact xw_ireturn (pc := 34) C dX0_number_34 rfl hX
def fX0_restOf_P2 (X : XCtx) (x0 : Nat) (x1 : Int32) (n sl : Nat) (s : (XH × Int32)) : Prop := XW X 2 [some (.ref x0), some (.int x1), some (.int s.2), none, none] [] s.1 n sl
def fX0_restOf_E2 (X : XCtx) (x0 : Nat) (x1 : Int32) (n sl : Nat) (e : XH) : Prop := XW X 25 [some (.ref x0), some (.int x1), none, none, none] [] e n sl
set_option maxHeartbeats 4000000 in
set_option maxRecDepth 100000 in
theorem fX0_restOf_B2_w {X : XCtx} (C : XOK X RX0 cX0_restOf 5 "restOf" (some .int) 1 22) {n sl : Nat} (hN : XN X n sl) {x0 : Nat} {x1 : Int32} (s : (XH × Int32)) (o : (XH × Int32) ⊕ XH) (hm : fX0_restOf_B2 x0 x1 s = some o) (hc : ∀ s', o = .inl s' → fX0_restOf_P2 X x0 x1 n sl s') (he : ∀ e', o = .inr e' → fX0_restOf_E2 X x0 x1 n sl e') : fX0_restOf_P2 X x0 x1 n sl s := by
  obtain ⟨h, x2⟩ := s
  show XW X 2 [some (.ref x0), some (.int x1), some (.int x2), none, none] [] h n sl
  replace hm : fX0_restOf_b2 x0 x1 h x2 = some o := hm
  unfold fX0_restOf_b2 at hm
  refine xw_iload_n (pc := 2) (i := 2) (x := x2) C dX0_restOf_2 rfl rfl ?_
  refine xw_aload_n (pc := 3) (i := 0) (x := x0) C dX0_restOf_3 rfl rfl ?_
  obtain ⟨v1, q2, hm⟩ := xbind hm
  refine xw_getI (pc := 4) C dX0_restOf_4 fl_X0_18 q2 ?_
  refine xw_icmp_ge (pc := 7) (tgt := 25) C dX0_restOf_7 (by decide) (fun q => ?_) (fun q => ?_)
  · replace hm := xif_t q hm
    obtain rfl := Option.some.inj hm
    refine xw_sub (pc := 25) _ ?_ (he _ rfl)
    exact ⟨Or.inr rfl, Or.inr rfl, Or.inl rfl, Or.inl rfl, Or.inl rfl, trivial⟩
  · replace hm := xif_f q hm
    refine xw_aload_n (pc := 10) (i := 0) (x := x0) C dX0_restOf_10 rfl rfl ?_
    obtain ⟨v3, q4, hm⟩ := xbind hm
    refine xw_getR (pc := 11) C dX0_restOf_11 fl_X0_15 q4 ?_
    refine xw_iload_n (pc := 14) (i := 2) (x := x2) C dX0_restOf_14 rfl rfl ?_
    refine xw_iconst (pc := 15) (v := 0) C dX0_restOf_15 xk_i_0 ?_
    obtain ⟨h5, q6, hm⟩ := xbind hm
    refine xw_callSN0 (pc := 16) (As := [.ref v3, .int x2, .int (0 : Int32)]) (st := []) C dX0_restOf_16 (wX8_put q6) dd_X8_put lk_X0_54 ds_X8_put rfl (Nat.le_of_ble_eq_true rfl) (Nat.le_of_ble_eq_true rfl) (Nat.le_of_ble_eq_true rfl) ⟨Nat.le_refl _, Nat.le_refl _⟩ hN ?_
    refine xw_iinc (pc := 19) (i := 2) (x := x2) (v := (x2 + (1 : Int32))) (L' := [some (.ref x0), some (.int x1), some (.int (x2 + (1 : Int32))), none, none]) C dX0_restOf_19 rfl (congrArg (HAdd.hAdd _) xk_i_1) (Nat.le_of_ble_eq_true rfl) rfl ?_
    refine xw_goto (pc := 22) (tgt := 2) C dX0_restOf_22 (by decide) ?_
    obtain rfl := Option.some.inj hm
    refine xw_sub (pc := 2) _ ?_ (hc _ rfl)
    exact ⟨Or.inr rfl, Or.inr rfl, Or.inr rfl, Or.inl rfl, Or.inl rfl, trivial⟩
def fX0_restOf_P29 (X : XCtx) (x0 : Nat) (x1 : Int32) (n sl : Nat) (s : (XH × Int32 × Int32)) : Prop := XW X 29 [some (.ref x0), some (.int x1), some (.int s.2.1), some (.int s.2.2), none] [] s.1 n sl
def fX0_restOf_E29 (X : XCtx) (x0 : Nat) (x1 : Int32) (n sl : Nat) (e : (XH × Int32)) : Prop := XW X 96 [none, none, some (.int e.2), none, none] [] e.1 n sl
set_option maxHeartbeats 4000000 in
set_option maxRecDepth 100000 in
theorem fX0_restOf_B29_w {X : XCtx} (C : XOK X RX0 cX0_restOf 5 "restOf" (some .int) 1 22) {n sl : Nat} (hN : XN X n sl) {x0 : Nat} {x1 : Int32} (s : (XH × Int32 × Int32)) (o : (XH × Int32 × Int32) ⊕ (XH × Int32)) (hm : fX0_restOf_B29 x0 x1 s = some o) (hc : ∀ s', o = .inl s' → fX0_restOf_P29 X x0 x1 n sl s') (he : ∀ e', o = .inr e' → fX0_restOf_E29 X x0 x1 n sl e') : fX0_restOf_P29 X x0 x1 n sl s := by
  obtain ⟨h, x2, x3⟩ := s
  show XW X 29 [some (.ref x0), some (.int x1), some (.int x2), some (.int x3), none] [] h n sl
  replace hm : fX0_restOf_b29 x0 x1 h x2 x3 = some o := hm
  unfold fX0_restOf_b29 at hm
  refine xw_iload_n (pc := 29) (i := 3) (x := x3) C dX0_restOf_29 rfl rfl ?_
  refine xw_aload_n (pc := 30) (i := 0) (x := x0) C dX0_restOf_30 rfl rfl ?_
  obtain ⟨v9, q10, hm⟩ := xbind hm
  refine xw_getI (pc := 31) C dX0_restOf_31 fl_X0_18 q10 ?_
  refine xw_icmp_ge (pc := 34) (tgt := 96) C dX0_restOf_34 (by decide) (fun q => ?_) (fun q => ?_)
  · replace hm := xif_t q hm
    obtain rfl := Option.some.inj hm
    refine xw_sub (pc := 96) _ ?_ (he _ rfl)
    exact ⟨Or.inl rfl, Or.inl rfl, Or.inr rfl, Or.inl rfl, Or.inl rfl, trivial⟩
  · replace hm := xif_f q hm
    refine xw_iload_n (pc := 37) (i := 3) (x := x3) C dX0_restOf_37 rfl rfl ?_
    refine xw_iload_n (pc := 38) (i := 1) (x := x1) C dX0_restOf_38 rfl rfl ?_
    refine xw_imul (pc := 39) C dX0_restOf_39 ?_
    refine xw_aload_n (pc := 40) (i := 0) (x := x0) C dX0_restOf_40 rfl rfl ?_
    obtain ⟨v11, q12, hm⟩ := xbind hm
    refine xw_getI (pc := 41) C dX0_restOf_41 fl_X0_18 q12 ?_
    obtain ⟨v13, q14, hm⟩ := xbind hm
    refine xw_callSN1 (pc := 44) (As := [.int (x3 * x1), .int v11]) (st := []) C dX0_restOf_44 (wX8_mod q14) dd_X8_mod lk_X0_36 ds_X8_mod rfl (Nat.le_of_ble_eq_true rfl) (Nat.le_of_ble_eq_true rfl) (Nat.le_of_ble_eq_true rfl) ⟨Nat.le_refl _, Nat.le_refl _⟩ hN ?_
    refine xw_istore (pc := 47) (i := 4) (x := v13) (L' := [some (.ref x0), some (.int x1), some (.int x2), some (.int x3), some (.int v13)]) C dX0_restOf_47 (Nat.le_of_ble_eq_true rfl) rfl ?_
    refine xw_aload_n (pc := 49) (i := 0) (x := x0) C dX0_restOf_49 rfl rfl ?_
    obtain ⟨v15, q16, hm⟩ := xbind hm
    refine xw_getR (pc := 50) C dX0_restOf_50 fl_X0_15 q16 ?_
    refine xw_iload (pc := 53) (i := 4) (x := v13) C dX0_restOf_53 rfl ?_
    refine xw_aload_n (pc := 55) (i := 0) (x := x0) C dX0_restOf_55 rfl rfl ?_
    obtain ⟨v17, q18, hm⟩ := xbind hm
    refine xw_getR (pc := 56) C dX0_restOf_56 fl_X0_15 q18 ?_
    refine xw_iload (pc := 59) (i := 4) (x := v13) C dX0_restOf_59 rfl ?_
    obtain ⟨v19, q20, hm⟩ := xbind hm
    refine xw_callSN1 (pc := 61) (As := [.ref v17, .int v13]) (st := [.int v13, .ref v15]) C dX0_restOf_61 (wX8_at q20) dd_X8_at lk_X0_58 ds_X8_at rfl (Nat.le_of_ble_eq_true rfl) (Nat.le_of_ble_eq_true rfl) (Nat.le_of_ble_eq_true rfl) ⟨Nat.le_refl _, Nat.le_refl _⟩ hN ?_
    refine xw_aload_n (pc := 64) (i := 0) (x := x0) C dX0_restOf_64 rfl rfl ?_
    obtain ⟨v21, q22, hm⟩ := xbind hm
    refine xw_getR (pc := 65) C dX0_restOf_65 fl_X0_9 q22 ?_
    refine xw_iload_n (pc := 68) (i := 3) (x := x3) C dX0_restOf_68 rfl rfl ?_
    obtain ⟨v23, q24, hm⟩ := xbind hm
    refine xw_callSN1 (pc := 69) (As := [.ref v21, .int x3]) (st := [.int v19, .int v13, .ref v15]) C dX0_restOf_69 (wX8_at q24) dd_X8_at lk_X0_58 ds_X8_at rfl (Nat.le_of_ble_eq_true rfl) (Nat.le_of_ble_eq_true rfl) (Nat.le_of_ble_eq_true rfl) ⟨Nat.le_refl _, Nat.le_refl _⟩ hN ?_
    refine xw_iadd (pc := 72) C dX0_restOf_72 ?_
    obtain ⟨h25, q26, hm⟩ := xbind hm
    refine xw_callSN0 (pc := 73) (As := [.ref v15, .int v13, .int (v19 + v23)]) (st := []) C dX0_restOf_73 (wX8_put q26) dd_X8_put lk_X0_54 ds_X8_put rfl (Nat.le_of_ble_eq_true rfl) (Nat.le_of_ble_eq_true rfl) (Nat.le_of_ble_eq_true rfl) ⟨Nat.le_refl _, Nat.le_refl _⟩ hN ?_
    refine xw_iload_n (pc := 76) (i := 2) (x := x2) C dX0_restOf_76 rfl rfl ?_
    refine xw_aload_n (pc := 77) (i := 0) (x := x0) C dX0_restOf_77 rfl rfl ?_
    obtain ⟨v27, q28, hm⟩ := xbind hm
    refine xw_getR (pc := 78) C dX0_restOf_78 fl_X0_15 q28 ?_
    refine xw_iload (pc := 81) (i := 4) (x := v13) C dX0_restOf_81 rfl ?_
    obtain ⟨v29, q30, hm⟩ := xbind hm
    refine xw_callSN1 (pc := 83) (As := [.ref v27, .int v13]) (st := [.int x2]) C dX0_restOf_83 (wX8_at q30) dd_X8_at lk_X0_58 ds_X8_at rfl (Nat.le_of_ble_eq_true rfl) (Nat.le_of_ble_eq_true rfl) (Nat.le_of_ble_eq_true rfl) ⟨Nat.le_refl _, Nat.le_refl _⟩ hN ?_
    refine xw_mmax (pc := 86) C dX0_restOf_86 lk_X0_62 ds_J9_max_7cf53 dd_J9_max_7cf53 (Nat.le_of_ble_eq_true rfl) (Nat.le_of_ble_eq_true rfl) hN ?_
    refine xw_istore_n (pc := 89) (i := 2) (x := (xmmax x2 v29)) (L' := [some (.ref x0), some (.int x1), some (.int (xmmax x2 v29)), some (.int x3), some (.int v13)]) C dX0_restOf_89 rfl (Nat.le_of_ble_eq_true rfl) rfl ?_
    refine xw_iinc (pc := 90) (i := 3) (x := x3) (v := (x3 + (1 : Int32))) (L' := [some (.ref x0), some (.int x1), some (.int (xmmax x2 v29)), some (.int (x3 + (1 : Int32))), some (.int v13)]) C dX0_restOf_90 rfl (congrArg (HAdd.hAdd _) xk_i_1) (Nat.le_of_ble_eq_true rfl) rfl ?_
    refine xw_goto (pc := 93) (tgt := 29) C dX0_restOf_93 (by decide) ?_
    obtain rfl := Option.some.inj hm
    refine xw_sub (pc := 29) _ ?_ (hc _ rfl)
    exact ⟨Or.inr rfl, Or.inr rfl, Or.inr rfl, Or.inr rfl, Or.inl rfl, trivial⟩
set_option maxHeartbeats 4000000 in
set_option maxRecDepth 100000 in
theorem wX0_restOf {l : Launch} {n sl : Nat} {h : XH} {x0 : Nat} {x1 : Int32} {o : Int32 × XH} (hm : fX0_restOf h x0 x1 = some o) : XM l yX0_restOf cX0_restOf 5 (some .int) 1 22 [.ref x0, .int x1] h n sl (some (.int o.1)) o.2 n sl := by
  refine xm_of pnX0 [some (.ref x0), some (.int x1), none, none, none] 3 rfl (Nat.le_of_ble_eq_true rfl) ?_
  intro X hT C
  replace C : XOK X RX0 cX0_restOf 5 "restOf" (some .int) 1 22 := C
  obtain ⟨-, hN, hX⟩ := hT
  unfold fX0_restOf at hm
  refine xw_iconst (pc := 0) (v := 0) C dX0_restOf_0 xk_i_0 ?_
  refine xw_istore_n (pc := 1) (i := 2) (x := (0 : Int32)) (L' := [some (.ref x0), some (.int x1), some (.int (0 : Int32)), none, none]) C dX0_restOf_1 rfl (Nat.le_of_ble_eq_true rfl) rfl ?_
  obtain ⟨e7, q8, hm⟩ := xbind hm
  refine xw_sub (pc := 2) [some (.ref x0), some (.int x1), some (.int (0 : Int32)), none, none] ⟨Or.inr rfl, Or.inr rfl, Or.inr rfl, Or.inl rfl, Or.inl rfl, trivial⟩ ?_
  refine xloop_walk (fX0_restOf_B2 x0 x1) (fX0_restOf_P2 X x0 x1 n sl) (fX0_restOf_E2 X x0 x1 n sl) (fun s' o' => fX0_restOf_B2_w C hN s' o') 5000 (h, (0 : Int32)) e7 q8 ?_
  show XW X 25 [some (.ref x0), some (.int x1), none, none, none] [] e7 n sl
  refine xw_iconst (pc := 25) (v := 0) C dX0_restOf_25 xk_i_0 ?_
  refine xw_istore_n (pc := 26) (i := 2) (x := (0 : Int32)) (L' := [some (.ref x0), some (.int x1), some (.int (0 : Int32)), none, none]) C dX0_restOf_26 rfl (Nat.le_of_ble_eq_true rfl) rfl ?_
  refine xw_iconst (pc := 27) (v := 0) C dX0_restOf_27 xk_i_0 ?_
  refine xw_istore_n (pc := 28) (i := 3) (x := (0 : Int32)) (L' := [some (.ref x0), some (.int x1), some (.int (0 : Int32)), some (.int (0 : Int32)), none]) C dX0_restOf_28 rfl (Nat.le_of_ble_eq_true rfl) rfl ?_
  obtain ⟨e31, q32, hm⟩ := xbind hm
  refine xw_sub (pc := 29) [some (.ref x0), some (.int x1), some (.int (0 : Int32)), some (.int (0 : Int32)), none] ⟨Or.inr rfl, Or.inr rfl, Or.inr rfl, Or.inr rfl, Or.inl rfl, trivial⟩ ?_
  refine xloop_walk (fX0_restOf_B29 x0 x1) (fX0_restOf_P29 X x0 x1 n sl) (fX0_restOf_E29 X x0 x1 n sl) (fun s' o' => fX0_restOf_B29_w C hN s' o') 5000 (e7, (0 : Int32), (0 : Int32)) e31 q32 ?_
  show XW X 96 [none, none, some (.int e31.2), none, none] [] e31.1 n sl
  refine xw_iload_n (pc := 96) (i := 2) (x := e31.2) C dX0_restOf_96 rfl rfl ?_
  obtain rfl := Option.some.inj hm
  exact xw_ireturn (pc := 97) C dX0_restOf_97 rfl hX
set_option maxHeartbeats 4000000 in
set_option maxRecDepth 100000 in
theorem wX1_copyFrom {l : Launch} {n sl : Nat} {h : XH} {x0 : Nat} {x1 : Nat} {o : XH} (hm : fX1_copyFrom h x0 x1 = some o) : XM l yX1_copyFrom cX1_copyFrom 2 none 0 0 [.ref x0, .ref x1] h n sl none o n sl := by
  refine xm_of pnX1 [some (.ref x0), some (.ref x1)] 0 rfl (Nat.le_of_ble_eq_true rfl) ?_
  intro X hT C
  replace C : XOK X RX1 cX1_copyFrom 2 "copyFrom" none 0 0 := C
  obtain ⟨-, hN, hX⟩ := hT
  unfold fX1_copyFrom at hm
  refine xw_aload_n (pc := 0) (i := 0) (x := x0) C dX1_copyFrom_0 rfl rfl ?_
  refine xw_aload_n (pc := 1) (i := 1) (x := x1) C dX1_copyFrom_1 rfl rfl ?_
  obtain ⟨v1, q2, hm⟩ := xbind hm
  refine xw_getI (pc := 2) C dX1_copyFrom_2 fl_X1_9 q2 ?_
  obtain ⟨h3, q4, hm⟩ := xbind hm
  refine xw_put (pc := 5) C dX1_copyFrom_5 fl_X1_9 q4 (fun _ => rfl) (fun _ => rfl) ?_
  refine xw_aload_n (pc := 8) (i := 0) (x := x0) C dX1_copyFrom_8 rfl rfl ?_
  refine xw_aload_n (pc := 9) (i := 1) (x := x1) C dX1_copyFrom_9 rfl rfl ?_
  obtain ⟨v5, q6, hm⟩ := xbind hm
  refine xw_getI (pc := 10) C dX1_copyFrom_10 fl_X1_15 q6 ?_
  obtain ⟨h7, q8, hm⟩ := xbind hm
  refine xw_put (pc := 13) C dX1_copyFrom_13 fl_X1_15 q8 (fun _ => rfl) (fun _ => rfl) ?_
  refine xw_aload_n (pc := 16) (i := 0) (x := x0) C dX1_copyFrom_16 rfl rfl ?_
  refine xw_aload_n (pc := 17) (i := 1) (x := x1) C dX1_copyFrom_17 rfl rfl ?_
  obtain ⟨v9, q10, hm⟩ := xbind hm
  refine xw_getI (pc := 18) C dX1_copyFrom_18 fl_X1_18 q10 ?_
  obtain ⟨h11, q12, hm⟩ := xbind hm
  refine xw_put (pc := 21) C dX1_copyFrom_21 fl_X1_18 q12 (fun _ => rfl) (fun _ => rfl) ?_
  refine xw_aload_n (pc := 24) (i := 0) (x := x0) C dX1_copyFrom_24 rfl rfl ?_
  refine xw_aload_n (pc := 25) (i := 1) (x := x1) C dX1_copyFrom_25 rfl rfl ?_
  obtain ⟨v13, q14, hm⟩ := xbind hm
  refine xw_getI (pc := 26) C dX1_copyFrom_26 fl_X1_21 q14 ?_
  obtain ⟨h15, q16, hm⟩ := xbind hm
  refine xw_put (pc := 29) C dX1_copyFrom_29 fl_X1_21 q16 (fun _ => rfl) (fun _ => rfl) ?_
  obtain rfl := Option.some.inj hm
  exact xw_return (pc := 32) C dX1_copyFrom_32 rfl hX
set_option maxHeartbeats 4000000 in
set_option maxRecDepth 100000 in
theorem wX1_isOpenAt {l : Launch} {n sl : Nat} {h : XH} {x0 : Nat} {x1 : Int32} {o : Bool} (hm : fX1_isOpenAt h x0 x1 = some o) : XM l yX1_isOpenAt cX1_isOpenAt 2 (some .boolean) 1 22 [.ref x0, .int x1] h n sl (some (.int (xbi o))) h n sl := by
  refine xm_of pnX1 [some (.ref x0), some (.int x1)] 0 rfl (Nat.le_of_ble_eq_true rfl) ?_
  intro X hT C
  replace C : XOK X RX1 cX1_isOpenAt 2 "isOpenAt" (some .boolean) 1 22 := C
  obtain ⟨-, hN, hX⟩ := hT
  unfold fX1_isOpenAt at hm
  refine xw_aload_n (pc := 0) (i := 0) (x := x0) C dX1_isOpenAt_0 rfl rfl ?_
  obtain ⟨v1, q2, hm⟩ := xbind hm
  refine xw_getI (pc := 1) C dX1_isOpenAt_1 fl_X1_15 q2 ?_
  refine xw_i2l (pc := 4) C dX1_isOpenAt_4 ?_
  refine xw_aload_n (pc := 5) (i := 0) (x := x0) C dX1_isOpenAt_5 rfl rfl ?_
  obtain ⟨v3, q4, hm⟩ := xbind hm
  refine xw_getI (pc := 6) C dX1_isOpenAt_6 fl_X1_18 q4 ?_
  refine xw_aload_n (pc := 9) (i := 0) (x := x0) C dX1_isOpenAt_9 rfl rfl ?_
  obtain ⟨v5, q6, hm⟩ := xbind hm
  refine xw_getI (pc := 10) C dX1_isOpenAt_10 fl_X1_21 q6 ?_
  refine xw_iload_n (pc := 13) (i := 1) (x := x1) C dX1_isOpenAt_13 rfl rfl ?_
  refine xw_imul (pc := 14) C dX1_isOpenAt_14 ?_
  refine xw_iadd (pc := 15) C dX1_isOpenAt_15 ?_
  refine xw_ineg (pc := 16) C dX1_isOpenAt_16 ?_
  refine xw_aload_n (pc := 17) (i := 0) (x := x0) C dX1_isOpenAt_17 rfl rfl ?_
  obtain ⟨v7, q8, hm⟩ := xbind hm
  refine xw_getI (pc := 18) C dX1_isOpenAt_18 fl_X1_9 q8 ?_
  obtain ⟨v9, q10, hm⟩ := xbind hm
  refine xw_callSN1 (pc := 21) (As := [.int (-(v3 + (v5 * x1))), .int v7]) (st := [.long (v1.toInt64)]) C dX1_isOpenAt_21 (wX8_mod q10) dd_X8_mod lk_X1_24 ds_X8_mod rfl (Nat.le_of_ble_eq_true rfl) (Nat.le_of_ble_eq_true rfl) (Nat.le_of_ble_eq_true rfl) ⟨Nat.le_refl _, Nat.le_refl _⟩ hN ?_
  obtain ⟨v11, q12, hm⟩ := xbind hm
  refine xw_callSN1 (pc := 24) (As := [.long (v1.toInt64), .int v9]) (st := []) C dX1_isOpenAt_24 (wX8_hasBit q12) dd_X8_hasBit lk_X1_28 ds_X8_hasBit rfl (Nat.le_of_ble_eq_true rfl) (Nat.le_of_ble_eq_true rfl) (Nat.le_of_ble_eq_true rfl) ⟨Nat.le_refl _, Nat.le_refl _⟩ hN ?_
  obtain rfl := Option.some.inj hm
  exact xw_zreturn (pc := 27) (v := xbi v11) C dX1_isOpenAt_27 rfl (xbi_nar _) hX
set_option maxHeartbeats 4000000 in
set_option maxRecDepth 100000 in
theorem wX1_opensAt {l : Launch} {n sl : Nat} {h : XH} {x0 : Nat} {x1 : Int32} {o : Bool} (hm : fX1_opensAt h x0 x1 = some o) : XM l yX1_opensAt cX1_opensAt 2 (some .boolean) 2 43 [.ref x0, .int x1] h n sl (some (.int (xbi o))) h n sl := by
  refine xm_of pnX1 [some (.ref x0), some (.int x1)] 0 rfl (Nat.le_of_ble_eq_true rfl) ?_
  intro X hT C
  replace C : XOK X RX1 cX1_opensAt 2 "opensAt" (some .boolean) 2 43 := C
  obtain ⟨-, hN, hX⟩ := hT
  unfold fX1_opensAt at hm
  refine xw_aload_n (pc := 0) (i := 0) (x := x0) C dX1_opensAt_0 rfl rfl ?_
  refine xw_iload_n (pc := 1) (i := 1) (x := x1) C dX1_opensAt_1 rfl rfl ?_
  obtain ⟨_, q1, hm⟩ := xbind hm
  obtain ⟨v2, q3, hm⟩ := xbind hm
  refine xw_callV1 (pc := 2) (As := [.int x1]) (st := []) C dX1_opensAt_2 (wX1_isOpenAt q3) dd_X1_isOpenAt lk_X1_32 dv_X1_isOpenAt (xco_spec q1) rfl (Nat.le_of_ble_eq_true rfl) (Nat.le_of_ble_eq_true rfl) (Nat.le_of_ble_eq_true rfl) ⟨Nat.le_refl _, Nat.le_refl _⟩ hN ?_
  refine xw_if_eqZ (pc := 5) (b := v2) (tgt := 26) C dX1_opensAt_5 (by decide) (fun q => ?_) (fun q => ?_)
  · replace hm := xif_f q hm
    refine xw_iconst (pc := 26) (v := 0) C dX1_opensAt_26 xk_i_0 ?_
    obtain rfl := Option.some.inj hm
    exact xw_zreturn (pc := 27) (v := xbi false) C dX1_opensAt_27 rfl (xbi_nar _) hX
  · replace hm := xif_t q hm
    refine xw_iload_n (pc := 8) (i := 1) (x := x1) C dX1_opensAt_8 rfl rfl ?_
    refine xw_if_eq (pc := 9) (tgt := 22) C dX1_opensAt_9 (by decide) (fun q => ?_) (fun q => ?_)
    · replace hm := xif_t q hm
      refine xw_iconst (pc := 22) (v := 1) C dX1_opensAt_22 xk_i_1 ?_
      refine xw_goto (pc := 23) (tgt := 27) C dX1_opensAt_23 (by decide) ?_
      obtain rfl := Option.some.inj hm
      exact xw_zreturn (pc := 27) (v := xbi true) C dX1_opensAt_27 rfl (xbi_nar _) hX
    · replace hm := xif_f q hm
      refine xw_aload_n (pc := 12) (i := 0) (x := x0) C dX1_opensAt_12 rfl rfl ?_
      refine xw_iload_n (pc := 13) (i := 1) (x := x1) C dX1_opensAt_13 rfl rfl ?_
      refine xw_iconst (pc := 14) (v := 1) C dX1_opensAt_14 xk_i_1 ?_
      refine xw_isub (pc := 15) C dX1_opensAt_15 ?_
      obtain ⟨_, q4, hm⟩ := xbind hm
      obtain ⟨v5, q6, hm⟩ := xbind hm
      refine xw_callV1 (pc := 16) (As := [.int (x1 - (1 : Int32))]) (st := []) C dX1_opensAt_16 (wX1_isOpenAt q6) dd_X1_isOpenAt lk_X1_32 dv_X1_isOpenAt (xco_spec q4) rfl (Nat.le_of_ble_eq_true rfl) (Nat.le_of_ble_eq_true rfl) (Nat.le_of_ble_eq_true rfl) ⟨Nat.le_refl _, Nat.le_refl _⟩ hN ?_
      refine xw_if_neZ (pc := 19) (b := v5) (tgt := 26) C dX1_opensAt_19 (by decide) (fun q => ?_) (fun q => ?_)
      · replace hm := xif_t q hm
        refine xw_iconst (pc := 26) (v := 0) C dX1_opensAt_26 xk_i_0 ?_
        obtain rfl := Option.some.inj hm
        exact xw_zreturn (pc := 27) (v := xbi false) C dX1_opensAt_27 rfl (xbi_nar _) hX
      · replace hm := xif_f q hm
        refine xw_iconst (pc := 22) (v := 1) C dX1_opensAt_22 xk_i_1 ?_
        refine xw_goto (pc := 23) (tgt := 27) C dX1_opensAt_23 (by decide) ?_
        obtain rfl := Option.some.inj hm
        exact xw_zreturn (pc := 27) (v := xbi true) C dX1_opensAt_27 rfl (xbi_nar _) hX
def fX1_firstTickOf_P4 (X : XCtx) (h : XH) (x0 : Nat) (x1 : Int32) (n sl : Nat) (s : (Int32 × Int32)) : Prop := XW X 4 [some (.ref x0), some (.int x1), some (.int s.1), some (.int s.2)] [] h n sl
def fX1_firstTickOf_E4 (X : XCtx) (h : XH) (x0 : Nat) (x1 : Int32) (n sl : Nat) (e : (Int32 ⊕ Unit)) : Prop := match e with
  | .inl e => XW X 24 [none, none, none, some (.int e)] [] h n sl
  | .inr e => XW X 35 [none, none, none, none] [] h n sl
set_option maxHeartbeats 4000000 in
set_option maxRecDepth 100000 in
theorem fX1_firstTickOf_B4_w {X : XCtx} (C : XOK X RX1 cX1_firstTickOf 4 "firstTickOf" (some .int) 3 64) {n sl : Nat} (hN : XN X n sl) {h : XH} {x0 : Nat} {x1 : Int32} (s : (Int32 × Int32)) (o : (Int32 × Int32) ⊕ (Int32 ⊕ Unit)) (hm : fX1_firstTickOf_B4 h x0 x1 s = some o) (hc : ∀ s', o = .inl s' → fX1_firstTickOf_P4 X h x0 x1 n sl s') (he : ∀ e', o = .inr e' → fX1_firstTickOf_E4 X h x0 x1 n sl e') : fX1_firstTickOf_P4 X h x0 x1 n sl s := by
  obtain ⟨x2, x3⟩ := s
  show XW X 4 [some (.ref x0), some (.int x1), some (.int x2), some (.int x3)] [] h n sl
  replace hm : fX1_firstTickOf_b4 h x0 x1 x2 x3 = some o := hm
  unfold fX1_firstTickOf_b4 at hm
  refine xw_iload_n (pc := 4) (i := 3) (x := x3) C dX1_firstTickOf_4 rfl rfl ?_
  refine xw_sipush (pc := 5) (v := 1000) C dX1_firstTickOf_5 xk_s_1000 ?_
  refine xw_icmp_gt (pc := 8) (tgt := 35) C dX1_firstTickOf_8 (by decide) (fun q => ?_) (fun q => ?_)
  · replace hm := xif_t q hm
    obtain rfl := Option.some.inj hm
    refine xw_sub (pc := 35) _ ?_ (he _ rfl)
    exact ⟨Or.inl rfl, Or.inl rfl, Or.inl rfl, Or.inl rfl, trivial⟩
  · replace hm := xif_f q hm
    refine xw_aload_n (pc := 11) (i := 0) (x := x0) C dX1_firstTickOf_11 rfl rfl ?_
    refine xw_iload_n (pc := 12) (i := 3) (x := x3) C dX1_firstTickOf_12 rfl rfl ?_
    obtain ⟨_, q1, hm⟩ := xbind hm
    obtain ⟨v2, q3, hm⟩ := xbind hm
    refine xw_callV1 (pc := 13) (As := [.int x3]) (st := []) C dX1_firstTickOf_13 (wX1_opensAt q3) dd_X1_opensAt lk_X1_36 dv_X1_opensAt (xco_spec q1) rfl (Nat.le_of_ble_eq_true rfl) (Nat.le_of_ble_eq_true rfl) (Nat.le_of_ble_eq_true rfl) ⟨Nat.le_refl _, Nat.le_refl _⟩ hN ?_
    refine xw_if_eqZ (pc := 16) (b := v2) (tgt := 29) C dX1_firstTickOf_16 (by decide) (fun q => ?_) (fun q => ?_)
    · replace hm := xif_f q hm
      refine xw_iinc (pc := 29) (i := 3) (x := x3) (v := (x3 + (1 : Int32))) (L' := [some (.ref x0), some (.int x1), some (.int x2), some (.int (x3 + (1 : Int32)))]) C dX1_firstTickOf_29 rfl (congrArg (HAdd.hAdd _) xk_i_1) (Nat.le_of_ble_eq_true rfl) rfl ?_
      refine xw_goto (pc := 32) (tgt := 4) C dX1_firstTickOf_32 (by decide) ?_
      obtain rfl := Option.some.inj hm
      refine xw_sub (pc := 4) _ ?_ (hc _ rfl)
      exact ⟨Or.inr rfl, Or.inr rfl, Or.inr rfl, Or.inr rfl, trivial⟩
    · replace hm := xif_t q hm
      refine xw_iload_n (pc := 19) (i := 2) (x := x2) C dX1_firstTickOf_19 rfl rfl ?_
      refine xw_iload_n (pc := 20) (i := 1) (x := x1) C dX1_firstTickOf_20 rfl rfl ?_
      refine xw_icmp_ne (pc := 21) (tgt := 26) C dX1_firstTickOf_21 (by decide) (fun q => ?_) (fun q => ?_)
      · replace hm := xif_f q hm
        refine xw_iinc (pc := 26) (i := 2) (x := x2) (v := (x2 + (1 : Int32))) (L' := [some (.ref x0), some (.int x1), some (.int (x2 + (1 : Int32))), some (.int x3)]) C dX1_firstTickOf_26 rfl (congrArg (HAdd.hAdd _) xk_i_1) (Nat.le_of_ble_eq_true rfl) rfl ?_
        refine xw_iinc (pc := 29) (i := 3) (x := x3) (v := (x3 + (1 : Int32))) (L' := [some (.ref x0), some (.int x1), some (.int (x2 + (1 : Int32))), some (.int (x3 + (1 : Int32)))]) C dX1_firstTickOf_29 rfl (congrArg (HAdd.hAdd _) xk_i_1) (Nat.le_of_ble_eq_true rfl) rfl ?_
        refine xw_goto (pc := 32) (tgt := 4) C dX1_firstTickOf_32 (by decide) ?_
        obtain rfl := Option.some.inj hm
        refine xw_sub (pc := 4) _ ?_ (hc _ rfl)
        exact ⟨Or.inr rfl, Or.inr rfl, Or.inr rfl, Or.inr rfl, trivial⟩
      · replace hm := xif_t q hm
        obtain rfl := Option.some.inj hm
        refine xw_sub (pc := 24) _ ?_ (he _ rfl)
        exact ⟨Or.inl rfl, Or.inl rfl, Or.inl rfl, Or.inr rfl, trivial⟩
set_option maxHeartbeats 4000000 in
set_option maxRecDepth 100000 in
theorem wX1_firstTickOf {l : Launch} {n sl : Nat} {h : XH} {x0 : Nat} {x1 : Int32} {o : Int32} (hm : fX1_firstTickOf h x0 x1 = some o) : XM l yX1_firstTickOf cX1_firstTickOf 4 (some .int) 3 64 [.ref x0, .int x1] h n sl (some (.int o)) h n sl := by
  refine xm_of pnX1 [some (.ref x0), some (.int x1), none, none] 2 rfl (Nat.le_of_ble_eq_true rfl) ?_
  intro X hT C
  replace C : XOK X RX1 cX1_firstTickOf 4 "firstTickOf" (some .int) 3 64 := C
  obtain ⟨-, hN, hX⟩ := hT
  unfold fX1_firstTickOf at hm
  refine xw_iconst (pc := 0) (v := 0) C dX1_firstTickOf_0 xk_i_0 ?_
  refine xw_istore_n (pc := 1) (i := 2) (x := (0 : Int32)) (L' := [some (.ref x0), some (.int x1), some (.int (0 : Int32)), none]) C dX1_firstTickOf_1 rfl (Nat.le_of_ble_eq_true rfl) rfl ?_
  refine xw_iconst (pc := 2) (v := 0) C dX1_firstTickOf_2 xk_i_0 ?_
  refine xw_istore_n (pc := 3) (i := 3) (x := (0 : Int32)) (L' := [some (.ref x0), some (.int x1), some (.int (0 : Int32)), some (.int (0 : Int32))]) C dX1_firstTickOf_3 rfl (Nat.le_of_ble_eq_true rfl) rfl ?_
  obtain ⟨e4, q5, hm⟩ := xbind hm
  refine xw_sub (pc := 4) [some (.ref x0), some (.int x1), some (.int (0 : Int32)), some (.int (0 : Int32))] ⟨Or.inr rfl, Or.inr rfl, Or.inr rfl, Or.inr rfl, trivial⟩ ?_
  refine xloop_walk (fX1_firstTickOf_B4 h x0 x1) (fX1_firstTickOf_P4 X h x0 x1 n sl) (fX1_firstTickOf_E4 X h x0 x1 n sl) (fun s' o' => fX1_firstTickOf_B4_w C hN s' o') 5000 ((0 : Int32), (0 : Int32)) e4 q5 ?_
  rcases e4 with e4 | e4
  · dsimp only at hm
    show XW X 24 [none, none, none, some (.int e4)] [] h n sl
    refine xw_iload_n (pc := 24) (i := 3) (x := e4) C dX1_firstTickOf_24 rfl rfl ?_
    obtain rfl := Option.some.inj hm
    exact xw_ireturn (pc := 25) C dX1_firstTickOf_25 rfl hX
  · dsimp only at hm
    show XW X 35 [none, none, none, none] [] h n sl
    refine xw_iconst (pc := 35) (v := -1) C dX1_firstTickOf_35 xk_i_m1 ?_
    obtain rfl := Option.some.inj hm
    exact xw_ireturn (pc := 36) C dX1_firstTickOf_36 rfl hX
set_option maxHeartbeats 4000000 in
set_option maxRecDepth 100000 in
theorem wX1_init {l : Launch} {n sl : Nat} {h : XH} {x0 : Nat} {o : XH} (hm : fX1_init h x0 = some o) : XM l yX1_init cX1_init 1 none 1 20 [.ref x0] h n sl none o n sl := by
  refine xm_of pnX1 [some (.ref x0)] 0 rfl (Nat.le_of_ble_eq_true rfl) ?_
  intro X hT C
  replace C : XOK X RX1 cX1_init 1 "<init>" none 1 20 := C
  obtain ⟨-, hN, hX⟩ := hT
  unfold fX1_init at hm
  refine xw_aload_n (pc := 0) (i := 0) (x := x0) C dX1_init_0 rfl rfl ?_
  refine xw_objInit (pc := 1) C dX1_init_1 lk_X1_3 oi_inst oi_code (Nat.le_of_ble_eq_true rfl) (Nat.le_of_ble_eq_true rfl) ?_
  refine xw_aload_n (pc := 4) (i := 0) (x := x0) C dX1_init_4 rfl rfl ?_
  refine xw_iconst (pc := 5) (v := 1) C dX1_init_5 xk_i_1 ?_
  obtain ⟨h1, q2, hm⟩ := xbind hm
  refine xw_put (pc := 6) C dX1_init_6 fl_X1_9 q2 (fun _ => rfl) (fun _ => rfl) ?_
  refine xw_aload_n (pc := 9) (i := 0) (x := x0) C dX1_init_9 rfl rfl ?_
  refine xw_iconst (pc := 10) (v := 1) C dX1_init_10 xk_i_1 ?_
  obtain ⟨h3, q4, hm⟩ := xbind hm
  refine xw_put (pc := 11) C dX1_init_11 fl_X1_15 q4 (fun _ => rfl) (fun _ => rfl) ?_
  obtain rfl := Option.some.inj hm
  exact xw_return (pc := 14) C dX1_init_14 rfl hX
def fX1_openings_P4 (X : XCtx) (h : XH) (x0 : Nat) (n sl : Nat) (s : (Int32 × Int32)) : Prop := XW X 4 [some (.ref x0), some (.int s.1), some (.int s.2)] [] h n sl
def fX1_openings_E4 (X : XCtx) (h : XH) (x0 : Nat) (n sl : Nat) (e : Int32) : Prop := XW X 28 [none, some (.int e), none] [] h n sl
set_option maxHeartbeats 4000000 in
set_option maxRecDepth 100000 in
theorem fX1_openings_B4_w {X : XCtx} (C : XOK X RX1 cX1_openings 3 "openings" (some .int) 3 64) {n sl : Nat} (hN : XN X n sl) {h : XH} {x0 : Nat} (s : (Int32 × Int32)) (o : (Int32 × Int32) ⊕ Int32) (hm : fX1_openings_B4 h x0 s = some o) (hc : ∀ s', o = .inl s' → fX1_openings_P4 X h x0 n sl s') (he : ∀ e', o = .inr e' → fX1_openings_E4 X h x0 n sl e') : fX1_openings_P4 X h x0 n sl s := by
  obtain ⟨x1, x2⟩ := s
  show XW X 4 [some (.ref x0), some (.int x1), some (.int x2)] [] h n sl
  replace hm : fX1_openings_b4 h x0 x1 x2 = some o := hm
  unfold fX1_openings_b4 at hm
  refine xw_iload_n (pc := 4) (i := 2) (x := x2) C dX1_openings_4 rfl rfl ?_
  refine xw_sipush (pc := 5) (v := 1000) C dX1_openings_5 xk_s_1000 ?_
  refine xw_icmp_gt (pc := 8) (tgt := 28) C dX1_openings_8 (by decide) (fun q => ?_) (fun q => ?_)
  · replace hm := xif_t q hm
    obtain rfl := Option.some.inj hm
    refine xw_sub (pc := 28) _ ?_ (he _ rfl)
    exact ⟨Or.inl rfl, Or.inr rfl, Or.inl rfl, trivial⟩
  · replace hm := xif_f q hm
    refine xw_aload_n (pc := 11) (i := 0) (x := x0) C dX1_openings_11 rfl rfl ?_
    refine xw_iload_n (pc := 12) (i := 2) (x := x2) C dX1_openings_12 rfl rfl ?_
    obtain ⟨_, q1, hm⟩ := xbind hm
    obtain ⟨v2, q3, hm⟩ := xbind hm
    refine xw_callV1 (pc := 13) (As := [.int x2]) (st := []) C dX1_openings_13 (wX1_opensAt q3) dd_X1_opensAt lk_X1_36 dv_X1_opensAt (xco_spec q1) rfl (Nat.le_of_ble_eq_true rfl) (Nat.le_of_ble_eq_true rfl) (Nat.le_of_ble_eq_true rfl) ⟨Nat.le_refl _, Nat.le_refl _⟩ hN ?_
    refine xw_if_eqZ (pc := 16) (b := v2) (tgt := 22) C dX1_openings_16 (by decide) (fun q => ?_) (fun q => ?_)
    · replace hm := xif_f q hm
      refine xw_iinc (pc := 22) (i := 2) (x := x2) (v := (x2 + (1 : Int32))) (L' := [some (.ref x0), some (.int x1), some (.int (x2 + (1 : Int32)))]) C dX1_openings_22 rfl (congrArg (HAdd.hAdd _) xk_i_1) (Nat.le_of_ble_eq_true rfl) rfl ?_
      refine xw_goto (pc := 25) (tgt := 4) C dX1_openings_25 (by decide) ?_
      obtain rfl := Option.some.inj hm
      refine xw_sub (pc := 4) _ ?_ (hc _ rfl)
      exact ⟨Or.inr rfl, Or.inr rfl, Or.inr rfl, trivial⟩
    · replace hm := xif_t q hm
      refine xw_iinc (pc := 19) (i := 1) (x := x1) (v := (x1 + (1 : Int32))) (L' := [some (.ref x0), some (.int (x1 + (1 : Int32))), some (.int x2)]) C dX1_openings_19 rfl (congrArg (HAdd.hAdd _) xk_i_1) (Nat.le_of_ble_eq_true rfl) rfl ?_
      refine xw_iinc (pc := 22) (i := 2) (x := x2) (v := (x2 + (1 : Int32))) (L' := [some (.ref x0), some (.int (x1 + (1 : Int32))), some (.int (x2 + (1 : Int32)))]) C dX1_openings_22 rfl (congrArg (HAdd.hAdd _) xk_i_1) (Nat.le_of_ble_eq_true rfl) rfl ?_
      refine xw_goto (pc := 25) (tgt := 4) C dX1_openings_25 (by decide) ?_
      obtain rfl := Option.some.inj hm
      refine xw_sub (pc := 4) _ ?_ (hc _ rfl)
      exact ⟨Or.inr rfl, Or.inr rfl, Or.inr rfl, trivial⟩
set_option maxHeartbeats 4000000 in
set_option maxRecDepth 100000 in
theorem wX1_openings {l : Launch} {n sl : Nat} {h : XH} {x0 : Nat} {o : Int32} (hm : fX1_openings h x0 = some o) : XM l yX1_openings cX1_openings 3 (some .int) 3 64 [.ref x0] h n sl (some (.int o)) h n sl := by
  refine xm_of pnX1 [some (.ref x0), none, none] 2 rfl (Nat.le_of_ble_eq_true rfl) ?_
  intro X hT C
  replace C : XOK X RX1 cX1_openings 3 "openings" (some .int) 3 64 := C
  obtain ⟨-, hN, hX⟩ := hT
  unfold fX1_openings at hm
  refine xw_iconst (pc := 0) (v := 0) C dX1_openings_0 xk_i_0 ?_
  refine xw_istore_n (pc := 1) (i := 1) (x := (0 : Int32)) (L' := [some (.ref x0), some (.int (0 : Int32)), none]) C dX1_openings_1 rfl (Nat.le_of_ble_eq_true rfl) rfl ?_
  refine xw_iconst (pc := 2) (v := 0) C dX1_openings_2 xk_i_0 ?_
  refine xw_istore_n (pc := 3) (i := 2) (x := (0 : Int32)) (L' := [some (.ref x0), some (.int (0 : Int32)), some (.int (0 : Int32))]) C dX1_openings_3 rfl (Nat.le_of_ble_eq_true rfl) rfl ?_
  obtain ⟨e4, q5, hm⟩ := xbind hm
  refine xw_sub (pc := 4) [some (.ref x0), some (.int (0 : Int32)), some (.int (0 : Int32))] ⟨Or.inr rfl, Or.inr rfl, Or.inr rfl, trivial⟩ ?_
  refine xloop_walk (fX1_openings_B4 h x0) (fX1_openings_P4 X h x0 n sl) (fX1_openings_E4 X h x0 n sl) (fun s' o' => fX1_openings_B4_w C hN s' o') 5000 ((0 : Int32), (0 : Int32)) e4 q5 ?_
  show XW X 28 [none, some (.int e4), none] [] h n sl
  refine xw_iload_n (pc := 28) (i := 1) (x := e4) C dX1_openings_28 rfl rfl ?_
  obtain rfl := Option.some.inj hm
  exact xw_ireturn (pc := 29) C dX1_openings_29 rfl hX
def fX1_ticksFrom_P2 (X : XCtx) (h : XH) (x0 : Nat) (x1 : Int32) (n sl : Nat) (s : Int32) : Prop := XW X 2 [some (.ref x0), some (.int x1), some (.int s)] [] h n sl
def fX1_ticksFrom_E2 (X : XCtx) (h : XH) (x0 : Nat) (x1 : Int32) (n sl : Nat) (e : Int32) : Prop := XW X 23 [none, some (.int x1), some (.int e)] [] h n sl
set_option maxHeartbeats 4000000 in
set_option maxRecDepth 100000 in
theorem fX1_ticksFrom_B2_w {X : XCtx} (C : XOK X RX1 cX1_ticksFrom 3 "ticksFrom" (some .int) 2 43) {n sl : Nat} (hN : XN X n sl) {h : XH} {x0 : Nat} {x1 : Int32} (s : Int32) (o : Int32 ⊕ Int32) (hm : fX1_ticksFrom_B2 h x0 x1 s = some o) (hc : ∀ s', o = .inl s' → fX1_ticksFrom_P2 X h x0 x1 n sl s') (he : ∀ e', o = .inr e' → fX1_ticksFrom_E2 X h x0 x1 n sl e') : fX1_ticksFrom_P2 X h x0 x1 n sl s := by
  revert s; intro x2 hm
  show XW X 2 [some (.ref x0), some (.int x1), some (.int x2)] [] h n sl
  replace hm : fX1_ticksFrom_b2 h x0 x1 x2 = some o := hm
  unfold fX1_ticksFrom_b2 at hm
  refine xw_iload_n (pc := 2) (i := 2) (x := x2) C dX1_ticksFrom_2 rfl rfl ?_
  refine xw_sipush (pc := 3) (v := 1000) C dX1_ticksFrom_3 xk_s_1000 ?_
  refine xw_icmp_gt (pc := 6) (tgt := 23) C dX1_ticksFrom_6 (by decide) (fun q => ?_) (fun q => ?_)
  · replace hm := xif_t q hm
    obtain rfl := Option.some.inj hm
    refine xw_sub (pc := 23) _ ?_ (he _ rfl)
    exact ⟨Or.inl rfl, Or.inr rfl, Or.inr rfl, trivial⟩
  · replace hm := xif_f q hm
    refine xw_aload_n (pc := 9) (i := 0) (x := x0) C dX1_ticksFrom_9 rfl rfl ?_
    refine xw_iload_n (pc := 10) (i := 2) (x := x2) C dX1_ticksFrom_10 rfl rfl ?_
    obtain ⟨_, q1, hm⟩ := xbind hm
    obtain ⟨v2, q3, hm⟩ := xbind hm
    refine xw_callV1 (pc := 11) (As := [.int x2]) (st := []) C dX1_ticksFrom_11 (wX1_isOpenAt q3) dd_X1_isOpenAt lk_X1_32 dv_X1_isOpenAt (xco_spec q1) rfl (Nat.le_of_ble_eq_true rfl) (Nat.le_of_ble_eq_true rfl) (Nat.le_of_ble_eq_true rfl) ⟨Nat.le_refl _, Nat.le_refl _⟩ hN ?_
    refine xw_if_eqZ (pc := 14) (b := v2) (tgt := 23) C dX1_ticksFrom_14 (by decide) (fun q => ?_) (fun q => ?_)
    · replace hm := xif_f q hm
      obtain rfl := Option.some.inj hm
      refine xw_sub (pc := 23) _ ?_ (he _ rfl)
      exact ⟨Or.inl rfl, Or.inr rfl, Or.inr rfl, trivial⟩
    · replace hm := xif_t q hm
      refine xw_iinc (pc := 17) (i := 2) (x := x2) (v := (x2 + (1 : Int32))) (L' := [some (.ref x0), some (.int x1), some (.int (x2 + (1 : Int32)))]) C dX1_ticksFrom_17 rfl (congrArg (HAdd.hAdd _) xk_i_1) (Nat.le_of_ble_eq_true rfl) rfl ?_
      refine xw_goto (pc := 20) (tgt := 2) C dX1_ticksFrom_20 (by decide) ?_
      obtain rfl := Option.some.inj hm
      refine xw_sub (pc := 2) _ ?_ (hc _ rfl)
      exact ⟨Or.inr rfl, Or.inr rfl, Or.inr rfl, trivial⟩
set_option maxHeartbeats 4000000 in
set_option maxRecDepth 100000 in
theorem wX1_ticksFrom {l : Launch} {n sl : Nat} {h : XH} {x0 : Nat} {x1 : Int32} {o : Int32} (hm : fX1_ticksFrom h x0 x1 = some o) : XM l yX1_ticksFrom cX1_ticksFrom 3 (some .int) 2 43 [.ref x0, .int x1] h n sl (some (.int o)) h n sl := by
  refine xm_of pnX1 [some (.ref x0), some (.int x1), none] 1 rfl (Nat.le_of_ble_eq_true rfl) ?_
  intro X hT C
  replace C : XOK X RX1 cX1_ticksFrom 3 "ticksFrom" (some .int) 2 43 := C
  obtain ⟨-, hN, hX⟩ := hT
  unfold fX1_ticksFrom at hm
  refine xw_iload_n (pc := 0) (i := 1) (x := x1) C dX1_ticksFrom_0 rfl rfl ?_
  refine xw_istore_n (pc := 1) (i := 2) (x := x1) (L' := [some (.ref x0), some (.int x1), some (.int x1)]) C dX1_ticksFrom_1 rfl (Nat.le_of_ble_eq_true rfl) rfl ?_
  obtain ⟨e4, q5, hm⟩ := xbind hm
  refine xw_sub (pc := 2) [some (.ref x0), some (.int x1), some (.int x1)] ⟨Or.inr rfl, Or.inr rfl, Or.inr rfl, trivial⟩ ?_
  refine xloop_walk (fX1_ticksFrom_B2 h x0 x1) (fX1_ticksFrom_P2 X h x0 x1 n sl) (fX1_ticksFrom_E2 X h x0 x1 n sl) (fun s' o' => fX1_ticksFrom_B2_w C hN s' o') 5000 x1 e4 q5 ?_
  show XW X 23 [none, some (.int x1), some (.int e4)] [] h n sl
  refine xw_iload_n (pc := 23) (i := 2) (x := e4) C dX1_ticksFrom_23 rfl rfl ?_
  refine xw_iload_n (pc := 24) (i := 1) (x := x1) C dX1_ticksFrom_24 rfl rfl ?_
  refine xw_isub (pc := 25) C dX1_ticksFrom_25 ?_
  obtain rfl := Option.some.inj hm
  exact xw_ireturn (pc := 26) C dX1_ticksFrom_26 rfl hX
set_option maxHeartbeats 4000000 in
set_option maxRecDepth 100000 in
theorem wX2_copyFrom {l : Launch} {n sl : Nat} {h : XH} {x0 : Nat} {x1 : Nat} {o : XH} (hm : fX2_copyFrom h x0 x1 = some o) : XM l yX2_copyFrom cX2_copyFrom 2 none 0 0 [.ref x0, .ref x1] h n sl none o n sl := by
  refine xm_of pnX2 [some (.ref x0), some (.ref x1)] 0 rfl (Nat.le_of_ble_eq_true rfl) ?_
  intro X hT C
  replace C : XOK X RX2 cX2_copyFrom 2 "copyFrom" none 0 0 := C
  obtain ⟨-, hN, hX⟩ := hT
  unfold fX2_copyFrom at hm
  refine xw_aload_n (pc := 0) (i := 0) (x := x0) C dX2_copyFrom_0 rfl rfl ?_
  refine xw_aload_n (pc := 1) (i := 1) (x := x1) C dX2_copyFrom_1 rfl rfl ?_
  obtain ⟨v1, q2, hm⟩ := xbind hm
  refine xw_getI (pc := 2) C dX2_copyFrom_2 fl_X2_15 q2 ?_
  obtain ⟨h3, q4, hm⟩ := xbind hm
  refine xw_put (pc := 5) C dX2_copyFrom_5 fl_X2_15 q4 (fun _ => rfl) (fun _ => rfl) ?_
  refine xw_aload_n (pc := 8) (i := 0) (x := x0) C dX2_copyFrom_8 rfl rfl ?_
  refine xw_aload_n (pc := 9) (i := 1) (x := x1) C dX2_copyFrom_9 rfl rfl ?_
  obtain ⟨v5, q6, hm⟩ := xbind hm
  refine xw_getI (pc := 10) C dX2_copyFrom_10 fl_X2_9 q6 ?_
  obtain ⟨h7, q8, hm⟩ := xbind hm
  refine xw_put (pc := 13) C dX2_copyFrom_13 fl_X2_9 q8 (fun _ => rfl) (fun _ => rfl) ?_
  obtain rfl := Option.some.inj hm
  exact xw_return (pc := 16) C dX2_copyFrom_16 rfl hX
set_option maxHeartbeats 4000000 in
set_option maxRecDepth 100000 in
theorem wX2_init {l : Launch} {n sl : Nat} {h : XH} {x0 : Nat} {o : XH} (hm : fX2_init h x0 = some o) : XM l yX2_init cX2_init 1 none 1 20 [.ref x0] h n sl none o n sl := by
  refine xm_of pnX2 [some (.ref x0)] 0 rfl (Nat.le_of_ble_eq_true rfl) ?_
  intro X hT C
  replace C : XOK X RX2 cX2_init 1 "<init>" none 1 20 := C
  obtain ⟨-, hN, hX⟩ := hT
  unfold fX2_init at hm
  refine xw_aload_n (pc := 0) (i := 0) (x := x0) C dX2_init_0 rfl rfl ?_
  refine xw_objInit (pc := 1) C dX2_init_1 lk_X2_3 oi_inst oi_code (Nat.le_of_ble_eq_true rfl) (Nat.le_of_ble_eq_true rfl) ?_
  refine xw_aload_n (pc := 4) (i := 0) (x := x0) C dX2_init_4 rfl rfl ?_
  refine xw_iconst (pc := 5) (v := 1) C dX2_init_5 xk_i_1 ?_
  obtain ⟨h1, q2, hm⟩ := xbind hm
  refine xw_put (pc := 6) C dX2_init_6 fl_X2_9 q2 (fun _ => rfl) (fun _ => rfl) ?_
  obtain rfl := Option.some.inj hm
  exact xw_return (pc := 9) C dX2_init_9 rfl hX
set_option maxHeartbeats 4000000 in
set_option maxRecDepth 100000 in
theorem wX2_number {l : Launch} {n sl : Nat} {h : XH} {x0 : Nat} {o : Int32} (hm : fX2_number h x0 = some o) : XM l yX2_number cX2_number 1 (some .int) 0 0 [.ref x0] h n sl (some (.int o)) h n sl := by
  refine xm_of pnX2 [some (.ref x0)] 0 rfl (Nat.le_of_ble_eq_true rfl) ?_
  intro X hT C
  replace C : XOK X RX2 cX2_number 1 "number" (some .int) 0 0 := C
  obtain ⟨-, hN, hX⟩ := hT
  unfold fX2_number at hm
  refine xw_aload_n (pc := 0) (i := 0) (x := x0) C dX2_number_0 rfl rfl ?_
  obtain ⟨v1, q2, hm⟩ := xbind hm
  refine xw_getI (pc := 1) C dX2_number_1 fl_X2_9 q2 ?_
  refine xw_if_le (pc := 4) (tgt := 25) C dX2_number_4 (by decide) (fun q => ?_) (fun q => ?_)
  · replace hm := xif_t q hm
    refine xw_iconst (pc := 25) (v := 0) C dX2_number_25 xk_i_0 ?_
    obtain rfl := Option.some.inj hm
    exact xw_ireturn (pc := 26) C dX2_number_26 rfl hX
  · replace hm := xif_f q hm
    refine xw_sipush (pc := 7) (v := 1000) C dX2_number_7 xk_s_1000 ?_
    refine xw_aload_n (pc := 10) (i := 0) (x := x0) C dX2_number_10 rfl rfl ?_
    obtain ⟨v3, q4, hm⟩ := xbind hm
    refine xw_getI (pc := 11) C dX2_number_11 fl_X2_15 q4 ?_
    refine xw_isub (pc := 14) C dX2_number_14 ?_
    refine xw_aload_n (pc := 15) (i := 0) (x := x0) C dX2_number_15 rfl rfl ?_
    obtain ⟨v5, q6, hm⟩ := xbind hm
    refine xw_getI (pc := 16) C dX2_number_16 fl_X2_9 q6 ?_
    obtain ⟨q7, hm⟩ := xif_n hm
    refine xw_idiv (pc := 19) C dX2_number_19 q7 ?_
    refine xw_iconst (pc := 20) (v := 1) C dX2_number_20 xk_i_1 ?_
    refine xw_iadd (pc := 21) C dX2_number_21 ?_
    refine xw_goto (pc := 22) (tgt := 26) C dX2_number_22 (by decide) ?_
    obtain rfl := Option.some.inj hm
    exact xw_ireturn (pc := 26) C dX2_number_26 rfl hX
set_option maxHeartbeats 4000000 in
set_option maxRecDepth 100000 in
theorem wX2_tickOf {l : Launch} {n sl : Nat} {h : XH} {x0 : Nat} {x1 : Int32} {o : Int32} (hm : fX2_tickOf h x0 x1 = some o) : XM l yX2_tickOf cX2_tickOf 2 (some .int) 0 0 [.ref x0, .int x1] h n sl (some (.int o)) h n sl := by
  refine xm_of pnX2 [some (.ref x0), some (.int x1)] 0 rfl (Nat.le_of_ble_eq_true rfl) ?_
  intro X hT C
  replace C : XOK X RX2 cX2_tickOf 2 "tickOf" (some .int) 0 0 := C
  obtain ⟨-, hN, hX⟩ := hT
  unfold fX2_tickOf at hm
  refine xw_aload_n (pc := 0) (i := 0) (x := x0) C dX2_tickOf_0 rfl rfl ?_
  obtain ⟨v1, q2, hm⟩ := xbind hm
  refine xw_getI (pc := 1) C dX2_tickOf_1 fl_X2_15 q2 ?_
  refine xw_iload_n (pc := 4) (i := 1) (x := x1) C dX2_tickOf_4 rfl rfl ?_
  refine xw_aload_n (pc := 5) (i := 0) (x := x0) C dX2_tickOf_5 rfl rfl ?_
  obtain ⟨v3, q4, hm⟩ := xbind hm
  refine xw_getI (pc := 6) C dX2_tickOf_6 fl_X2_9 q4 ?_
  refine xw_imul (pc := 9) C dX2_tickOf_9 ?_
  refine xw_iadd (pc := 10) C dX2_tickOf_10 ?_
  obtain rfl := Option.some.inj hm
  exact xw_ireturn (pc := 11) C dX2_tickOf_11 rfl hX
set_option maxHeartbeats 4000000 in
set_option maxRecDepth 100000 in
theorem wX4_init {l : Launch} {n sl : Nat} {h : XH} {x0 : Nat} {o : XH} (hm : fX4_init h n x0 = some o) : XM l yX4_init cX4_init 1 none 1 20 [.ref x0] h n sl none o (n + 2) (sl + 16) := by
  refine xm_of pnX4 [some (.ref x0)] 0 rfl (Nat.le_of_ble_eq_true rfl) ?_
  intro X hT C
  replace C : XOK X RX4 cX4_init 1 "<init>" none 1 20 := C
  obtain ⟨-, hN, hX⟩ := hT
  unfold fX4_init at hm
  refine xw_aload_n (pc := 0) (i := 0) (x := x0) C dX4_init_0 rfl rfl ?_
  refine xw_objInit (pc := 1) C dX4_init_1 lk_X4_3 oi_inst oi_code (Nat.le_of_ble_eq_true rfl) (Nat.le_of_ble_eq_true rfl) ?_
  refine xw_aload_n (pc := 4) (i := 0) (x := x0) C dX4_init_4 rfl rfl ?_
  refine xw_bipush (pc := 5) (v := 8) C dX4_init_5 xk_b_8 ?_
  obtain ⟨h1, q2, hm⟩ := xbind hm
  refine xw_newIB (pc := 7) (N := 8) C dX4_init_7 ar_int (by decide) (by decide) (Nat.le_of_ble_eq_true rfl) ⟨by have := hN.1; omega, by have := hN.2; omega⟩ q2 ?_
  obtain ⟨h3, q4, hm⟩ := xbind hm
  refine xw_putF (pc := 9) C dX4_init_9 fl_X4_9 q4 rfl rfl (fun _ => rfl) (fun _ => rfl) ?_
  refine xw_aload_n (pc := 12) (i := 0) (x := x0) C dX4_init_12 rfl rfl ?_
  refine xw_bipush (pc := 13) (v := 8) C dX4_init_13 xk_b_8 ?_
  obtain ⟨h5, q6, hm⟩ := xbind hm
  refine xw_newIB (pc := 15) (N := 8) C dX4_init_15 ar_int (by decide) (by decide) (Nat.le_of_ble_eq_true rfl) ⟨by have := hN.1; omega, by have := hN.2; omega⟩ q6 ?_
  obtain ⟨h7, q8, hm⟩ := xbind hm
  refine xw_putF (pc := 17) C dX4_init_17 fl_X4_15 q8 rfl rfl (fun _ => rfl) (fun _ => rfl) ?_
  refine xw_aload_n (pc := 20) (i := 0) (x := x0) C dX4_init_20 rfl rfl ?_
  refine xw_bipush (pc := 21) (v := 100) C dX4_init_21 xk_b_100 ?_
  obtain ⟨h9, q10, hm⟩ := xbind hm
  refine xw_put (pc := 23) C dX4_init_23 fl_X4_18 q10 (fun _ => rfl) (fun _ => rfl) ?_
  obtain rfl := Option.some.inj hm
  exact xw_return (pc := 26) C dX4_init_26 rfl hX
def fX6_init_P34 (X : XCtx) (x0 : Nat) (n sl : Nat) (s : (XH × Int32)) : Prop := XW X 34 [some (.ref x0), some (.int s.2)] [] s.1 n sl
def fX6_init_E34 (X : XCtx) (x0 : Nat) (n sl : Nat) (e : XH) : Prop := XW X 57 [none, none] [] e n sl
set_option maxHeartbeats 4000000 in
set_option maxRecDepth 100000 in
theorem fX6_init_B34_w {X : XCtx} (C : XOK X RX6 cX6_init 2 "<init>" none 1 22) {n sl : Nat} (hN : XN X n sl) {x0 : Nat} (s : (XH × Int32)) (o : (XH × Int32) ⊕ XH) (hm : fX6_init_B34 x0 s = some o) (hc : ∀ s', o = .inl s' → fX6_init_P34 X x0 n sl s') (he : ∀ e', o = .inr e' → fX6_init_E34 X x0 n sl e') : fX6_init_P34 X x0 n sl s := by
  obtain ⟨h, x1⟩ := s
  show XW X 34 [some (.ref x0), some (.int x1)] [] h n sl
  replace hm : fX6_init_b34 x0 h x1 = some o := hm
  unfold fX6_init_b34 at hm
  refine xw_iload_n (pc := 34) (i := 1) (x := x1) C dX6_init_34 rfl rfl ?_
  refine xw_aload_n (pc := 35) (i := 0) (x := x0) C dX6_init_35 rfl rfl ?_
  obtain ⟨v15, q16, hm⟩ := xbind hm
  refine xw_getI (pc := 36) C dX6_init_36 fl_X6_21 q16 ?_
  refine xw_icmp_ge (pc := 39) (tgt := 57) C dX6_init_39 (by decide) (fun q => ?_) (fun q => ?_)
  · replace hm := xif_t q hm
    obtain rfl := Option.some.inj hm
    refine xw_sub (pc := 57) _ ?_ (he _ rfl)
    exact ⟨Or.inl rfl, Or.inl rfl, trivial⟩
  · replace hm := xif_f q hm
    refine xw_aload_n (pc := 42) (i := 0) (x := x0) C dX6_init_42 rfl rfl ?_
    obtain ⟨v17, q18, hm⟩ := xbind hm
    refine xw_getR (pc := 43) C dX6_init_43 fl_X6_9 q18 ?_
    refine xw_iload_n (pc := 46) (i := 1) (x := x1) C dX6_init_46 rfl rfl ?_
    refine xw_iconst (pc := 47) (v := 1) C dX6_init_47 xk_i_1 ?_
    obtain ⟨h19, q20, hm⟩ := xbind hm
    refine xw_callSN0 (pc := 48) (As := [.ref v17, .int x1, .int (1 : Int32)]) (st := []) C dX6_init_48 (wX8_put q20) dd_X8_put lk_X6_25 ds_X8_put rfl (Nat.le_of_ble_eq_true rfl) (Nat.le_of_ble_eq_true rfl) (Nat.le_of_ble_eq_true rfl) ⟨Nat.le_refl _, Nat.le_refl _⟩ ⟨by have := hN.1; omega, by have := hN.2; omega⟩ ?_
    refine xw_iinc (pc := 51) (i := 1) (x := x1) (v := (x1 + (3 : Int32))) (L' := [some (.ref x0), some (.int (x1 + (3 : Int32)))]) C dX6_init_51 rfl (congrArg (HAdd.hAdd _) xk_i_3) (Nat.le_of_ble_eq_true rfl) rfl ?_
    refine xw_goto (pc := 54) (tgt := 34) C dX6_init_54 (by decide) ?_
    obtain rfl := Option.some.inj hm
    refine xw_sub (pc := 34) _ ?_ (hc _ rfl)
    exact ⟨Or.inr rfl, Or.inr rfl, trivial⟩
set_option maxHeartbeats 4000000 in
set_option maxRecDepth 100000 in
theorem wX6_init {l : Launch} {n sl : Nat} {h : XH} {x0 : Nat} {o : XH} (hm : fX6_init h n x0 = some o) : XM l yX6_init cX6_init 2 none 1 22 [.ref x0] h n sl none o (n + 3) (sl + 70) := by
  refine xm_of pnX6 [some (.ref x0), none] 1 rfl (Nat.le_of_ble_eq_true rfl) ?_
  intro X hT C
  replace C : XOK X RX6 cX6_init 2 "<init>" none 1 22 := C
  obtain ⟨-, hN, hX⟩ := hT
  unfold fX6_init at hm
  refine xw_aload_n (pc := 0) (i := 0) (x := x0) C dX6_init_0 rfl rfl ?_
  refine xw_objInit (pc := 1) C dX6_init_1 lk_X6_3 oi_inst oi_code (Nat.le_of_ble_eq_true rfl) (Nat.le_of_ble_eq_true rfl) ?_
  refine xw_aload_n (pc := 4) (i := 0) (x := x0) C dX6_init_4 rfl rfl ?_
  refine xw_bipush (pc := 5) (v := 60) C dX6_init_5 xk_b_60 ?_
  obtain ⟨h1, q2, hm⟩ := xbind hm
  refine xw_newIB (pc := 7) (N := 60) C dX6_init_7 ar_int (by decide) (by decide) (Nat.le_of_ble_eq_true rfl) ⟨by have := hN.1; omega, by have := hN.2; omega⟩ q2 ?_
  obtain ⟨h3, q4, hm⟩ := xbind hm
  refine xw_putF (pc := 9) C dX6_init_9 fl_X6_9 q4 rfl rfl (fun _ => rfl) (fun _ => rfl) ?_
  refine xw_aload_n (pc := 12) (i := 0) (x := x0) C dX6_init_12 rfl rfl ?_
  refine xw_iconst (pc := 13) (v := 5) C dX6_init_13 xk_i_5 ?_
  obtain ⟨h5, q6, hm⟩ := xbind hm
  refine xw_newIB (pc := 14) (N := 5) C dX6_init_14 ar_int (by decide) (by decide) (Nat.le_of_ble_eq_true rfl) ⟨by have := hN.1; omega, by have := hN.2; omega⟩ q6 ?_
  obtain ⟨h7, q8, hm⟩ := xbind hm
  refine xw_putF (pc := 16) C dX6_init_16 fl_X6_15 q8 rfl rfl (fun _ => rfl) (fun _ => rfl) ?_
  refine xw_aload_n (pc := 19) (i := 0) (x := x0) C dX6_init_19 rfl rfl ?_
  refine xw_iconst (pc := 20) (v := 5) C dX6_init_20 xk_i_5 ?_
  obtain ⟨h9, q10, hm⟩ := xbind hm
  refine xw_newIB (pc := 21) (N := 5) C dX6_init_21 ar_int (by decide) (by decide) (Nat.le_of_ble_eq_true rfl) ⟨by have := hN.1; omega, by have := hN.2; omega⟩ q10 ?_
  obtain ⟨h11, q12, hm⟩ := xbind hm
  refine xw_putF (pc := 23) C dX6_init_23 fl_X6_18 q12 rfl rfl (fun _ => rfl) (fun _ => rfl) ?_
  refine xw_aload_n (pc := 26) (i := 0) (x := x0) C dX6_init_26 rfl rfl ?_
  refine xw_bipush (pc := 27) (v := 12) C dX6_init_27 xk_b_12 ?_
  obtain ⟨h13, q14, hm⟩ := xbind hm
  refine xw_put (pc := 29) C dX6_init_29 fl_X6_21 q14 (fun _ => rfl) (fun _ => rfl) ?_
  refine xw_iconst (pc := 32) (v := 0) C dX6_init_32 xk_i_0 ?_
  refine xw_istore_n (pc := 33) (i := 1) (x := (0 : Int32)) (L' := [some (.ref x0), some (.int (0 : Int32))]) C dX6_init_33 rfl (Nat.le_of_ble_eq_true rfl) rfl ?_
  obtain ⟨e21, q22, hm⟩ := xbind hm
  refine xw_sub (pc := 34) [some (.ref x0), some (.int (0 : Int32))] ⟨Or.inr rfl, Or.inr rfl, trivial⟩ ?_
  refine xloop_walk (fX6_init_B34 x0) (fX6_init_P34 X x0 (n + 3) (sl + 70)) (fX6_init_E34 X x0 (n + 3) (sl + 70)) (fun s' o' => fX6_init_B34_w C (n := (n + 3)) (sl := (sl + 70)) ⟨by have := hN.1; omega, by have := hN.2; omega⟩ s' o') 5000 (h13, (0 : Int32)) e21 q22 ?_
  show XW X 57 [none, none] [] e21 (n + 3) (sl + 70)
  obtain rfl := Option.some.inj hm
  exact xw_return (pc := 57) C dX6_init_57 rfl hX
set_option maxHeartbeats 4000000 in
set_option maxRecDepth 100000 in
theorem wX5_init {l : Launch} {n sl : Nat} {h : XH} {x0 : Nat} {o : XH} (hm : fX5_init h n x0 = some o) : XM l yX5_init cX5_init 1 none 2 43 [.ref x0] h n sl none o (n + 9) (sl + 103) := by
  refine xm_of pnX5 [some (.ref x0)] 0 rfl (Nat.le_of_ble_eq_true rfl) ?_
  intro X hT C
  replace C : XOK X RX5 cX5_init 1 "<init>" none 2 43 := C
  obtain ⟨-, hN, hX⟩ := hT
  unfold fX5_init at hm
  refine xw_aload_n (pc := 0) (i := 0) (x := x0) C dX5_init_0 rfl rfl ?_
  refine xw_objInit (pc := 1) C dX5_init_1 lk_X5_1 oi_inst oi_code (Nat.le_of_ble_eq_true rfl) (Nat.le_of_ble_eq_true rfl) ?_
  refine xw_aload_n (pc := 4) (i := 0) (x := x0) C dX5_init_4 rfl rfl ?_
  obtain ⟨h1, q2, hm⟩ := xbind hm
  refine xw_newB (pc := 5) C dX5_init_5 cl_X5_7 nw_X6 ⟨by have := hN.1; omega, by have := hN.2; omega⟩ q2 ?_
  refine xw_dup (pc := 8) C dX5_init_8 rfl ?_
  obtain ⟨h3, q4, hm⟩ := xbind hm
  refine xw_callI0 (pc := 9) (As := []) (st := [.ref n, .ref x0]) C dX5_init_9 (wX6_init q4) dd_X6_init lk_X5_9 di_X6_init rfl rfl (Nat.le_of_ble_eq_true rfl) (Nat.le_of_ble_eq_true rfl) (Nat.le_of_ble_eq_true rfl) ⟨Nat.le_add_right _ _, Nat.le_add_right _ _⟩ ⟨by have := hN.1; omega, by have := hN.2; omega⟩ ?_
  obtain ⟨h5, q6, hm⟩ := xbind hm
  refine xw_putF (pc := 12) C dX5_init_12 fl_X5_10 q6 rfl rfl (fun _ => rfl) (fun _ => rfl) ?_
  refine xw_aload_n (pc := 15) (i := 0) (x := x0) C dX5_init_15 rfl rfl ?_
  obtain ⟨h7, q8, hm⟩ := xbind hm
  refine xw_newB (pc := 16) C dX5_init_16 cl_X5_16 nw_X2 ⟨by have := hN.1; omega, by have := hN.2; omega⟩ q8 ?_
  refine xw_dup (pc := 19) C dX5_init_19 rfl ?_
  obtain ⟨h9, q10, hm⟩ := xbind hm
  refine xw_callIN0 (pc := 20) (As := []) (st := [.ref (n + 4), .ref x0]) C dX5_init_20 (wX2_init q10) dd_X2_init lk_X5_18 di_X2_init rfl rfl (Nat.le_of_ble_eq_true rfl) (Nat.le_of_ble_eq_true rfl) (Nat.le_of_ble_eq_true rfl) ⟨Nat.le_refl _, Nat.le_refl _⟩ ⟨by have := hN.1; omega, by have := hN.2; omega⟩ ?_
  obtain ⟨h11, q12, hm⟩ := xbind hm
  refine xw_putF (pc := 23) C dX5_init_23 fl_X5_19 q12 rfl rfl (fun _ => rfl) (fun _ => rfl) ?_
  refine xw_aload_n (pc := 26) (i := 0) (x := x0) C dX5_init_26 rfl rfl ?_
  obtain ⟨h13, q14, hm⟩ := xbind hm
  refine xw_newB (pc := 27) C dX5_init_27 cl_X5_23 nw_X4 ⟨by have := hN.1; omega, by have := hN.2; omega⟩ q14 ?_
  refine xw_dup (pc := 30) C dX5_init_30 rfl ?_
  obtain ⟨h15, q16, hm⟩ := xbind hm
  refine xw_callIN0 (pc := 31) (As := []) (st := [.ref (n + 5), .ref x0]) C dX5_init_31 (wX4_init q16) dd_X4_init lk_X5_25 di_X4_init rfl rfl (Nat.le_of_ble_eq_true rfl) (Nat.le_of_ble_eq_true rfl) (Nat.le_of_ble_eq_true rfl) ⟨Nat.le_add_right _ _, Nat.le_add_right _ _⟩ ⟨by have := hN.1; omega, by have := hN.2; omega⟩ ?_
  obtain ⟨h17, q18, hm⟩ := xbind hm
  refine xw_putF (pc := 34) C dX5_init_34 fl_X5_26 q18 rfl rfl (fun _ => rfl) (fun _ => rfl) ?_
  refine xw_aload_n (pc := 37) (i := 0) (x := x0) C dX5_init_37 rfl rfl ?_
  obtain ⟨h19, q20, hm⟩ := xbind hm
  refine xw_newB (pc := 38) C dX5_init_38 cl_X5_30 nw_X1 ⟨by have := hN.1; omega, by have := hN.2; omega⟩ q20 ?_
  refine xw_dup (pc := 41) C dX5_init_41 rfl ?_
  obtain ⟨h21, q22, hm⟩ := xbind hm
  refine xw_callIN0 (pc := 42) (As := []) (st := [.ref (n + 8), .ref x0]) C dX5_init_42 (wX1_init q22) dd_X1_init lk_X5_32 di_X1_init rfl rfl (Nat.le_of_ble_eq_true rfl) (Nat.le_of_ble_eq_true rfl) (Nat.le_of_ble_eq_true rfl) ⟨Nat.le_refl _, Nat.le_refl _⟩ ⟨by have := hN.1; omega, by have := hN.2; omega⟩ ?_
  obtain ⟨h23, q24, hm⟩ := xbind hm
  refine xw_putF (pc := 45) C dX5_init_45 fl_X5_33 q24 rfl rfl (fun _ => rfl) (fun _ => rfl) ?_
  obtain rfl := Option.some.inj hm
  exact xw_return (pc := 48) C dX5_init_48 rfl hX
set_option maxHeartbeats 4000000 in
set_option maxRecDepth 100000 in
theorem wX3_init {l : Launch} {n sl : Nat} {h : XH} {x0 : Nat} {o : XH} (hm : fX3_init h n x0 = some o) : XM l yX3_init cX3_init 2 none 3 63 [.ref x0] h n sl none o (n + 81) (sl + 864) := by
  refine xm_of pnX3 [some (.ref x0), none] 1 rfl (Nat.le_of_ble_eq_true rfl) ?_
  intro X hT C
  replace C : XOK X RX3 cX3_init 2 "<init>" none 3 63 := C
  obtain ⟨-, hN, hX⟩ := hT
  unfold fX3_init at hm
  refine xw_aload_n (pc := 0) (i := 0) (x := x0) C dX3_init_0 rfl rfl ?_
  refine xw_objInit (pc := 1) C dX3_init_1 lk_X3_3 oi_inst oi_code (Nat.le_of_ble_eq_true rfl) (Nat.le_of_ble_eq_true rfl) ?_
  refine xw_aload_n (pc := 4) (i := 0) (x := x0) C dX3_init_4 rfl rfl ?_
  refine xw_bipush (pc := 5) (v := 8) C dX3_init_5 xk_b_8 ?_
  obtain ⟨h1, q2, hm⟩ := xbind hm
  refine xw_newQB (pc := 7) (N := 8) C dX3_init_7 cl_X3_9 (by decide) (by decide) (Nat.le_of_ble_eq_true rfl) ⟨by have := hN.1; omega, by have := hN.2; omega⟩ q2 ?_
  obtain ⟨h3, q4, hm⟩ := xbind hm
  refine xw_putF (pc := 10) C dX3_init_10 fl_X3_11 q4 rfl rfl (fun _ => rfl) (fun _ => rfl) ?_
  refine xw_iconst (pc := 13) (v := 0) C dX3_init_13 xk_i_0 ?_
  refine xw_istore_n (pc := 14) (i := 1) (x := (0 : Int32)) (L' := [some (.ref x0), some (.int (0 : Int32))]) C dX3_init_14 rfl (Nat.le_of_ble_eq_true rfl) rfl ?_
  refine xw_iload_n (pc := 15) (i := 1) (x := (0 : Int32)) C dX3_init_15 rfl rfl ?_
  refine xw_aload_n (pc := 16) (i := 0) (x := x0) C dX3_init_16 rfl rfl ?_
  obtain ⟨v5, q6, hm⟩ := xbind hm
  refine xw_getR (pc := 17) C dX3_init_17 fl_X3_11 q6 ?_
  obtain ⟨v7, q8, hm⟩ := xbind hm
  refine xw_alen (pc := 20) C dX3_init_20 q8 ?_
  refine xw_icmp_ge (pc := 21) (tgt := 43) C dX3_init_21 (by decide) (fun q => ?_) (fun q => ?_)
  · replace hm := xif_t q hm
    cases hm
  · replace hm := xif_f q hm
    refine xw_aload_n (pc := 24) (i := 0) (x := x0) C dX3_init_24 rfl rfl ?_
    obtain ⟨v9, q10, hm⟩ := xbind hm
    refine xw_getR (pc := 25) C dX3_init_25 fl_X3_11 q10 ?_
    refine xw_iload_n (pc := 28) (i := 1) (x := (0 : Int32)) C dX3_init_28 rfl rfl ?_
    obtain ⟨h11, q12, hm⟩ := xbind hm
    refine xw_newB (pc := 29) C dX3_init_29 cl_X3_9 nw_X5 ⟨by have := hN.1; omega, by have := hN.2; omega⟩ q12 ?_
    refine xw_dup (pc := 32) C dX3_init_32 rfl ?_
    obtain ⟨h13, q14, hm⟩ := xbind hm
    refine xw_callIN0 (pc := 33) (As := []) (st := [.ref (n + 1), .int (0 : Int32), .ref v9]) C dX3_init_33 (wX5_init q14) dd_X5_init lk_X3_17 di_X5_init rfl rfl (Nat.le_of_ble_eq_true rfl) (Nat.le_of_ble_eq_true rfl) (Nat.le_of_ble_eq_true rfl) ⟨Nat.le_add_right _ _, Nat.le_add_right _ _⟩ ⟨by have := hN.1; omega, by have := hN.2; omega⟩ ?_
    obtain ⟨h15, q16, hm⟩ := xbind hm
    refine xw_aastore (pc := 36) C dX3_init_36 q16 ?_
    refine xw_iinc (pc := 37) (i := 1) (x := (0 : Int32)) (v := (1 : Int32)) (L' := [some (.ref x0), some (.int (1 : Int32))]) C dX3_init_37 rfl (by decide) (Nat.le_of_ble_eq_true rfl) rfl ?_
    refine xw_goto (pc := 40) (tgt := 15) C dX3_init_40 (by decide) ?_
    refine xw_iload_n (pc := 15) (i := 1) (x := (1 : Int32)) C dX3_init_15 rfl rfl ?_
    refine xw_aload_n (pc := 16) (i := 0) (x := x0) C dX3_init_16 rfl rfl ?_
    obtain ⟨v17, q18, hm⟩ := xbind hm
    refine xw_getR (pc := 17) C dX3_init_17 fl_X3_11 q18 ?_
    obtain ⟨v19, q20, hm⟩ := xbind hm
    refine xw_alen (pc := 20) C dX3_init_20 q20 ?_
    refine xw_icmp_ge (pc := 21) (tgt := 43) C dX3_init_21 (by decide) (fun q => ?_) (fun q => ?_)
    · replace hm := xif_t q hm
      cases hm
    · replace hm := xif_f q hm
      refine xw_aload_n (pc := 24) (i := 0) (x := x0) C dX3_init_24 rfl rfl ?_
      obtain ⟨v21, q22, hm⟩ := xbind hm
      refine xw_getR (pc := 25) C dX3_init_25 fl_X3_11 q22 ?_
      refine xw_iload_n (pc := 28) (i := 1) (x := (1 : Int32)) C dX3_init_28 rfl rfl ?_
      obtain ⟨h23, q24, hm⟩ := xbind hm
      refine xw_newB (pc := 29) C dX3_init_29 cl_X3_9 nw_X5 ⟨by have := hN.1; omega, by have := hN.2; omega⟩ q24 ?_
      refine xw_dup (pc := 32) C dX3_init_32 rfl ?_
      obtain ⟨h25, q26, hm⟩ := xbind hm
      refine xw_callIN0 (pc := 33) (As := []) (st := [.ref (n + 11), .int (1 : Int32), .ref v21]) C dX3_init_33 (wX5_init q26) dd_X5_init lk_X3_17 di_X5_init rfl rfl (Nat.le_of_ble_eq_true rfl) (Nat.le_of_ble_eq_true rfl) (Nat.le_of_ble_eq_true rfl) ⟨Nat.le_add_right _ _, Nat.le_add_right _ _⟩ ⟨by have := hN.1; omega, by have := hN.2; omega⟩ ?_
      obtain ⟨h27, q28, hm⟩ := xbind hm
      refine xw_aastore (pc := 36) C dX3_init_36 q28 ?_
      refine xw_iinc (pc := 37) (i := 1) (x := (1 : Int32)) (v := (2 : Int32)) (L' := [some (.ref x0), some (.int (2 : Int32))]) C dX3_init_37 rfl (by decide) (Nat.le_of_ble_eq_true rfl) rfl ?_
      refine xw_goto (pc := 40) (tgt := 15) C dX3_init_40 (by decide) ?_
      refine xw_iload_n (pc := 15) (i := 1) (x := (2 : Int32)) C dX3_init_15 rfl rfl ?_
      refine xw_aload_n (pc := 16) (i := 0) (x := x0) C dX3_init_16 rfl rfl ?_
      obtain ⟨v29, q30, hm⟩ := xbind hm
      refine xw_getR (pc := 17) C dX3_init_17 fl_X3_11 q30 ?_
      obtain ⟨v31, q32, hm⟩ := xbind hm
      refine xw_alen (pc := 20) C dX3_init_20 q32 ?_
      refine xw_icmp_ge (pc := 21) (tgt := 43) C dX3_init_21 (by decide) (fun q => ?_) (fun q => ?_)
      · replace hm := xif_t q hm
        cases hm
      · replace hm := xif_f q hm
        refine xw_aload_n (pc := 24) (i := 0) (x := x0) C dX3_init_24 rfl rfl ?_
        obtain ⟨v33, q34, hm⟩ := xbind hm
        refine xw_getR (pc := 25) C dX3_init_25 fl_X3_11 q34 ?_
        refine xw_iload_n (pc := 28) (i := 1) (x := (2 : Int32)) C dX3_init_28 rfl rfl ?_
        obtain ⟨h35, q36, hm⟩ := xbind hm
        refine xw_newB (pc := 29) C dX3_init_29 cl_X3_9 nw_X5 ⟨by have := hN.1; omega, by have := hN.2; omega⟩ q36 ?_
        refine xw_dup (pc := 32) C dX3_init_32 rfl ?_
        obtain ⟨h37, q38, hm⟩ := xbind hm
        refine xw_callIN0 (pc := 33) (As := []) (st := [.ref (n + 21), .int (2 : Int32), .ref v33]) C dX3_init_33 (wX5_init q38) dd_X5_init lk_X3_17 di_X5_init rfl rfl (Nat.le_of_ble_eq_true rfl) (Nat.le_of_ble_eq_true rfl) (Nat.le_of_ble_eq_true rfl) ⟨Nat.le_add_right _ _, Nat.le_add_right _ _⟩ ⟨by have := hN.1; omega, by have := hN.2; omega⟩ ?_
        obtain ⟨h39, q40, hm⟩ := xbind hm
        refine xw_aastore (pc := 36) C dX3_init_36 q40 ?_
        refine xw_iinc (pc := 37) (i := 1) (x := (2 : Int32)) (v := (3 : Int32)) (L' := [some (.ref x0), some (.int (3 : Int32))]) C dX3_init_37 rfl (by decide) (Nat.le_of_ble_eq_true rfl) rfl ?_
        refine xw_goto (pc := 40) (tgt := 15) C dX3_init_40 (by decide) ?_
        refine xw_iload_n (pc := 15) (i := 1) (x := (3 : Int32)) C dX3_init_15 rfl rfl ?_
        refine xw_aload_n (pc := 16) (i := 0) (x := x0) C dX3_init_16 rfl rfl ?_
        obtain ⟨v41, q42, hm⟩ := xbind hm
        refine xw_getR (pc := 17) C dX3_init_17 fl_X3_11 q42 ?_
        obtain ⟨v43, q44, hm⟩ := xbind hm
        refine xw_alen (pc := 20) C dX3_init_20 q44 ?_
        refine xw_icmp_ge (pc := 21) (tgt := 43) C dX3_init_21 (by decide) (fun q => ?_) (fun q => ?_)
        · replace hm := xif_t q hm
          cases hm
        · replace hm := xif_f q hm
          refine xw_aload_n (pc := 24) (i := 0) (x := x0) C dX3_init_24 rfl rfl ?_
          obtain ⟨v45, q46, hm⟩ := xbind hm
          refine xw_getR (pc := 25) C dX3_init_25 fl_X3_11 q46 ?_
          refine xw_iload_n (pc := 28) (i := 1) (x := (3 : Int32)) C dX3_init_28 rfl rfl ?_
          obtain ⟨h47, q48, hm⟩ := xbind hm
          refine xw_newB (pc := 29) C dX3_init_29 cl_X3_9 nw_X5 ⟨by have := hN.1; omega, by have := hN.2; omega⟩ q48 ?_
          refine xw_dup (pc := 32) C dX3_init_32 rfl ?_
          obtain ⟨h49, q50, hm⟩ := xbind hm
          refine xw_callIN0 (pc := 33) (As := []) (st := [.ref (n + 31), .int (3 : Int32), .ref v45]) C dX3_init_33 (wX5_init q50) dd_X5_init lk_X3_17 di_X5_init rfl rfl (Nat.le_of_ble_eq_true rfl) (Nat.le_of_ble_eq_true rfl) (Nat.le_of_ble_eq_true rfl) ⟨Nat.le_add_right _ _, Nat.le_add_right _ _⟩ ⟨by have := hN.1; omega, by have := hN.2; omega⟩ ?_
          obtain ⟨h51, q52, hm⟩ := xbind hm
          refine xw_aastore (pc := 36) C dX3_init_36 q52 ?_
          refine xw_iinc (pc := 37) (i := 1) (x := (3 : Int32)) (v := (4 : Int32)) (L' := [some (.ref x0), some (.int (4 : Int32))]) C dX3_init_37 rfl (by decide) (Nat.le_of_ble_eq_true rfl) rfl ?_
          refine xw_goto (pc := 40) (tgt := 15) C dX3_init_40 (by decide) ?_
          refine xw_iload_n (pc := 15) (i := 1) (x := (4 : Int32)) C dX3_init_15 rfl rfl ?_
          refine xw_aload_n (pc := 16) (i := 0) (x := x0) C dX3_init_16 rfl rfl ?_
          obtain ⟨v53, q54, hm⟩ := xbind hm
          refine xw_getR (pc := 17) C dX3_init_17 fl_X3_11 q54 ?_
          obtain ⟨v55, q56, hm⟩ := xbind hm
          refine xw_alen (pc := 20) C dX3_init_20 q56 ?_
          refine xw_icmp_ge (pc := 21) (tgt := 43) C dX3_init_21 (by decide) (fun q => ?_) (fun q => ?_)
          · replace hm := xif_t q hm
            cases hm
          · replace hm := xif_f q hm
            refine xw_aload_n (pc := 24) (i := 0) (x := x0) C dX3_init_24 rfl rfl ?_
            obtain ⟨v57, q58, hm⟩ := xbind hm
            refine xw_getR (pc := 25) C dX3_init_25 fl_X3_11 q58 ?_
            refine xw_iload_n (pc := 28) (i := 1) (x := (4 : Int32)) C dX3_init_28 rfl rfl ?_
            obtain ⟨h59, q60, hm⟩ := xbind hm
            refine xw_newB (pc := 29) C dX3_init_29 cl_X3_9 nw_X5 ⟨by have := hN.1; omega, by have := hN.2; omega⟩ q60 ?_
            refine xw_dup (pc := 32) C dX3_init_32 rfl ?_
            obtain ⟨h61, q62, hm⟩ := xbind hm
            refine xw_callIN0 (pc := 33) (As := []) (st := [.ref (n + 41), .int (4 : Int32), .ref v57]) C dX3_init_33 (wX5_init q62) dd_X5_init lk_X3_17 di_X5_init rfl rfl (Nat.le_of_ble_eq_true rfl) (Nat.le_of_ble_eq_true rfl) (Nat.le_of_ble_eq_true rfl) ⟨Nat.le_add_right _ _, Nat.le_add_right _ _⟩ ⟨by have := hN.1; omega, by have := hN.2; omega⟩ ?_
            obtain ⟨h63, q64, hm⟩ := xbind hm
            refine xw_aastore (pc := 36) C dX3_init_36 q64 ?_
            refine xw_iinc (pc := 37) (i := 1) (x := (4 : Int32)) (v := (5 : Int32)) (L' := [some (.ref x0), some (.int (5 : Int32))]) C dX3_init_37 rfl (by decide) (Nat.le_of_ble_eq_true rfl) rfl ?_
            refine xw_goto (pc := 40) (tgt := 15) C dX3_init_40 (by decide) ?_
            refine xw_iload_n (pc := 15) (i := 1) (x := (5 : Int32)) C dX3_init_15 rfl rfl ?_
            refine xw_aload_n (pc := 16) (i := 0) (x := x0) C dX3_init_16 rfl rfl ?_
            obtain ⟨v65, q66, hm⟩ := xbind hm
            refine xw_getR (pc := 17) C dX3_init_17 fl_X3_11 q66 ?_
            obtain ⟨v67, q68, hm⟩ := xbind hm
            refine xw_alen (pc := 20) C dX3_init_20 q68 ?_
            refine xw_icmp_ge (pc := 21) (tgt := 43) C dX3_init_21 (by decide) (fun q => ?_) (fun q => ?_)
            · replace hm := xif_t q hm
              cases hm
            · replace hm := xif_f q hm
              refine xw_aload_n (pc := 24) (i := 0) (x := x0) C dX3_init_24 rfl rfl ?_
              obtain ⟨v69, q70, hm⟩ := xbind hm
              refine xw_getR (pc := 25) C dX3_init_25 fl_X3_11 q70 ?_
              refine xw_iload_n (pc := 28) (i := 1) (x := (5 : Int32)) C dX3_init_28 rfl rfl ?_
              obtain ⟨h71, q72, hm⟩ := xbind hm
              refine xw_newB (pc := 29) C dX3_init_29 cl_X3_9 nw_X5 ⟨by have := hN.1; omega, by have := hN.2; omega⟩ q72 ?_
              refine xw_dup (pc := 32) C dX3_init_32 rfl ?_
              obtain ⟨h73, q74, hm⟩ := xbind hm
              refine xw_callIN0 (pc := 33) (As := []) (st := [.ref (n + 51), .int (5 : Int32), .ref v69]) C dX3_init_33 (wX5_init q74) dd_X5_init lk_X3_17 di_X5_init rfl rfl (Nat.le_of_ble_eq_true rfl) (Nat.le_of_ble_eq_true rfl) (Nat.le_of_ble_eq_true rfl) ⟨Nat.le_add_right _ _, Nat.le_add_right _ _⟩ ⟨by have := hN.1; omega, by have := hN.2; omega⟩ ?_
              obtain ⟨h75, q76, hm⟩ := xbind hm
              refine xw_aastore (pc := 36) C dX3_init_36 q76 ?_
              refine xw_iinc (pc := 37) (i := 1) (x := (5 : Int32)) (v := (6 : Int32)) (L' := [some (.ref x0), some (.int (6 : Int32))]) C dX3_init_37 rfl (by decide) (Nat.le_of_ble_eq_true rfl) rfl ?_
              refine xw_goto (pc := 40) (tgt := 15) C dX3_init_40 (by decide) ?_
              refine xw_iload_n (pc := 15) (i := 1) (x := (6 : Int32)) C dX3_init_15 rfl rfl ?_
              refine xw_aload_n (pc := 16) (i := 0) (x := x0) C dX3_init_16 rfl rfl ?_
              obtain ⟨v77, q78, hm⟩ := xbind hm
              refine xw_getR (pc := 17) C dX3_init_17 fl_X3_11 q78 ?_
              obtain ⟨v79, q80, hm⟩ := xbind hm
              refine xw_alen (pc := 20) C dX3_init_20 q80 ?_
              refine xw_icmp_ge (pc := 21) (tgt := 43) C dX3_init_21 (by decide) (fun q => ?_) (fun q => ?_)
              · replace hm := xif_t q hm
                cases hm
              · replace hm := xif_f q hm
                refine xw_aload_n (pc := 24) (i := 0) (x := x0) C dX3_init_24 rfl rfl ?_
                obtain ⟨v81, q82, hm⟩ := xbind hm
                refine xw_getR (pc := 25) C dX3_init_25 fl_X3_11 q82 ?_
                refine xw_iload_n (pc := 28) (i := 1) (x := (6 : Int32)) C dX3_init_28 rfl rfl ?_
                obtain ⟨h83, q84, hm⟩ := xbind hm
                refine xw_newB (pc := 29) C dX3_init_29 cl_X3_9 nw_X5 ⟨by have := hN.1; omega, by have := hN.2; omega⟩ q84 ?_
                refine xw_dup (pc := 32) C dX3_init_32 rfl ?_
                obtain ⟨h85, q86, hm⟩ := xbind hm
                refine xw_callIN0 (pc := 33) (As := []) (st := [.ref (n + 61), .int (6 : Int32), .ref v81]) C dX3_init_33 (wX5_init q86) dd_X5_init lk_X3_17 di_X5_init rfl rfl (Nat.le_of_ble_eq_true rfl) (Nat.le_of_ble_eq_true rfl) (Nat.le_of_ble_eq_true rfl) ⟨Nat.le_add_right _ _, Nat.le_add_right _ _⟩ ⟨by have := hN.1; omega, by have := hN.2; omega⟩ ?_
                obtain ⟨h87, q88, hm⟩ := xbind hm
                refine xw_aastore (pc := 36) C dX3_init_36 q88 ?_
                refine xw_iinc (pc := 37) (i := 1) (x := (6 : Int32)) (v := (7 : Int32)) (L' := [some (.ref x0), some (.int (7 : Int32))]) C dX3_init_37 rfl (by decide) (Nat.le_of_ble_eq_true rfl) rfl ?_
                refine xw_goto (pc := 40) (tgt := 15) C dX3_init_40 (by decide) ?_
                refine xw_iload_n (pc := 15) (i := 1) (x := (7 : Int32)) C dX3_init_15 rfl rfl ?_
                refine xw_aload_n (pc := 16) (i := 0) (x := x0) C dX3_init_16 rfl rfl ?_
                obtain ⟨v89, q90, hm⟩ := xbind hm
                refine xw_getR (pc := 17) C dX3_init_17 fl_X3_11 q90 ?_
                obtain ⟨v91, q92, hm⟩ := xbind hm
                refine xw_alen (pc := 20) C dX3_init_20 q92 ?_
                refine xw_icmp_ge (pc := 21) (tgt := 43) C dX3_init_21 (by decide) (fun q => ?_) (fun q => ?_)
                · replace hm := xif_t q hm
                  cases hm
                · replace hm := xif_f q hm
                  refine xw_aload_n (pc := 24) (i := 0) (x := x0) C dX3_init_24 rfl rfl ?_
                  obtain ⟨v93, q94, hm⟩ := xbind hm
                  refine xw_getR (pc := 25) C dX3_init_25 fl_X3_11 q94 ?_
                  refine xw_iload_n (pc := 28) (i := 1) (x := (7 : Int32)) C dX3_init_28 rfl rfl ?_
                  obtain ⟨h95, q96, hm⟩ := xbind hm
                  refine xw_newB (pc := 29) C dX3_init_29 cl_X3_9 nw_X5 ⟨by have := hN.1; omega, by have := hN.2; omega⟩ q96 ?_
                  refine xw_dup (pc := 32) C dX3_init_32 rfl ?_
                  obtain ⟨h97, q98, hm⟩ := xbind hm
                  refine xw_callIN0 (pc := 33) (As := []) (st := [.ref (n + 71), .int (7 : Int32), .ref v93]) C dX3_init_33 (wX5_init q98) dd_X5_init lk_X3_17 di_X5_init rfl rfl (Nat.le_of_ble_eq_true rfl) (Nat.le_of_ble_eq_true rfl) (Nat.le_of_ble_eq_true rfl) ⟨Nat.le_add_right _ _, Nat.le_add_right _ _⟩ ⟨by have := hN.1; omega, by have := hN.2; omega⟩ ?_
                  obtain ⟨h99, q100, hm⟩ := xbind hm
                  refine xw_aastore (pc := 36) C dX3_init_36 q100 ?_
                  refine xw_iinc (pc := 37) (i := 1) (x := (7 : Int32)) (v := (8 : Int32)) (L' := [some (.ref x0), some (.int (8 : Int32))]) C dX3_init_37 rfl (by decide) (Nat.le_of_ble_eq_true rfl) rfl ?_
                  refine xw_goto (pc := 40) (tgt := 15) C dX3_init_40 (by decide) ?_
                  refine xw_iload_n (pc := 15) (i := 1) (x := (8 : Int32)) C dX3_init_15 rfl rfl ?_
                  refine xw_aload_n (pc := 16) (i := 0) (x := x0) C dX3_init_16 rfl rfl ?_
                  obtain ⟨v101, q102, hm⟩ := xbind hm
                  refine xw_getR (pc := 17) C dX3_init_17 fl_X3_11 q102 ?_
                  obtain ⟨v103, q104, hm⟩ := xbind hm
                  refine xw_alen (pc := 20) C dX3_init_20 q104 ?_
                  refine xw_icmp_ge (pc := 21) (tgt := 43) C dX3_init_21 (by decide) (fun q => ?_) (fun q => ?_)
                  · replace hm := xif_t q hm
                    obtain rfl := Option.some.inj hm
                    exact xw_return (pc := 43) C dX3_init_43 rfl hX
                  · replace hm := xif_f q hm
                    cases hm
set_option maxHeartbeats 4000000 in
set_option maxRecDepth 100000 in
theorem wX3_slotAt {l : Launch} {n sl : Nat} {h : XH} {x0 : Nat} {x1 : Int32} {o : Option Nat} (hm : fX3_slotAt h x0 x1 = some o) : XM l yX3_slotAt cX3_slotAt 2 (some (.object "FlashWheelReader$State")) 0 0 [.ref x0, .int x1] h n sl (some (va_rf o)) h n sl := by
  refine xm_of pnX3 [some (.ref x0), some (.int x1)] 0 rfl (Nat.le_of_ble_eq_true rfl) ?_
  intro X hT C
  replace C : XOK X RX3 cX3_slotAt 2 "slotAt" (some (.object "FlashWheelReader$State")) 0 0 := C
  obtain ⟨-, hN, hX⟩ := hT
  unfold fX3_slotAt at hm
  refine xw_iload_n (pc := 0) (i := 1) (x := x1) C dX3_slotAt_0 rfl rfl ?_
  refine xw_if_lt (pc := 1) (tgt := 22) C dX3_slotAt_1 (by decide) (fun q => ?_) (fun q => ?_)
  · replace hm := xif_t q hm
    refine xw_null (pc := 22) C dX3_slotAt_22 ?_
    obtain rfl := Option.some.inj hm
    exact xw_areturn (pc := 23) (v := none) C dX3_slotAt_23 rfl (Or.inl ⟨_, rfl⟩) hX
  · replace hm := xif_f q hm
    refine xw_iload_n (pc := 4) (i := 1) (x := x1) C dX3_slotAt_4 rfl rfl ?_
    refine xw_aload_n (pc := 5) (i := 0) (x := x0) C dX3_slotAt_5 rfl rfl ?_
    obtain ⟨v1, q2, hm⟩ := xbind hm
    refine xw_getR (pc := 6) C dX3_slotAt_6 fl_X3_11 q2 ?_
    obtain ⟨v3, q4, hm⟩ := xbind hm
    refine xw_alen (pc := 9) C dX3_slotAt_9 q4 ?_
    refine xw_icmp_ge (pc := 10) (tgt := 22) C dX3_slotAt_10 (by decide) (fun q => ?_) (fun q => ?_)
    · replace hm := xif_t q hm
      refine xw_null (pc := 22) C dX3_slotAt_22 ?_
      obtain rfl := Option.some.inj hm
      exact xw_areturn (pc := 23) (v := none) C dX3_slotAt_23 rfl (Or.inl ⟨_, rfl⟩) hX
    · replace hm := xif_f q hm
      refine xw_aload_n (pc := 13) (i := 0) (x := x0) C dX3_slotAt_13 rfl rfl ?_
      obtain ⟨v5, q6, hm⟩ := xbind hm
      refine xw_getR (pc := 14) C dX3_slotAt_14 fl_X3_11 q6 ?_
      refine xw_iload_n (pc := 17) (i := 1) (x := x1) C dX3_slotAt_17 rfl rfl ?_
      obtain ⟨v7, q8, hm⟩ := xbind hm
      refine xw_aaload (pc := 18) C dX3_slotAt_18 q8 ?_
      refine xw_goto (pc := 19) (tgt := 23) C dX3_slotAt_19 (by decide) ?_
      obtain rfl := Option.some.inj hm
      exact xw_areturn (pc := 23) (v := v7) C dX3_slotAt_23 rfl (Or.inl ⟨_, rfl⟩) hX
def fX8_copyRow_P2 (X : XCtx) (x0 : Nat) (x1 : Nat) (n sl : Nat) (s : (XH × Int32)) : Prop := XW X 2 [some (.ref x0), some (.ref x1), some (.int s.2)] [] s.1 n sl
def fX8_copyRow_E2 (X : XCtx) (x0 : Nat) (x1 : Nat) (n sl : Nat) (e : XH) : Prop := XW X 26 [none, none, none] [] e n sl
set_option maxHeartbeats 4000000 in
set_option maxRecDepth 100000 in
theorem fX8_copyRow_B2_w {X : XCtx} (C : XOK X RX8 cX8_copyRow 3 "copyRow" none 0 0) {n sl : Nat} (hN : XN X n sl) {x0 : Nat} {x1 : Nat} (s : (XH × Int32)) (o : (XH × Int32) ⊕ XH) (hm : fX8_copyRow_B2 x0 x1 s = some o) (hc : ∀ s', o = .inl s' → fX8_copyRow_P2 X x0 x1 n sl s') (he : ∀ e', o = .inr e' → fX8_copyRow_E2 X x0 x1 n sl e') : fX8_copyRow_P2 X x0 x1 n sl s := by
  obtain ⟨h, x2⟩ := s
  show XW X 2 [some (.ref x0), some (.ref x1), some (.int x2)] [] h n sl
  replace hm : fX8_copyRow_b2 x0 x1 h x2 = some o := hm
  unfold fX8_copyRow_b2 at hm
  refine xw_iload_n (pc := 2) (i := 2) (x := x2) C dX8_copyRow_2 rfl rfl ?_
  refine xw_aload_n (pc := 3) (i := 0) (x := x0) C dX8_copyRow_3 rfl rfl ?_
  obtain ⟨v1, q2, hm⟩ := xbind hm
  refine xw_alen (pc := 4) C dX8_copyRow_4 q2 ?_
  refine xw_icmp_ge (pc := 5) (tgt := 26) C dX8_copyRow_5 (by decide) (fun q => ?_) (fun q => ?_)
  · replace hm := xif_t q hm
    obtain rfl := Option.some.inj hm
    refine xw_sub (pc := 26) _ ?_ (he _ rfl)
    exact ⟨Or.inl rfl, Or.inl rfl, Or.inl rfl, trivial⟩
  · replace hm := xif_f q hm
    refine xw_iload_n (pc := 8) (i := 2) (x := x2) C dX8_copyRow_8 rfl rfl ?_
    refine xw_aload_n (pc := 9) (i := 1) (x := x1) C dX8_copyRow_9 rfl rfl ?_
    obtain ⟨v3, q4, hm⟩ := xbind hm
    refine xw_alen (pc := 10) C dX8_copyRow_10 q4 ?_
    refine xw_icmp_ge (pc := 11) (tgt := 26) C dX8_copyRow_11 (by decide) (fun q => ?_) (fun q => ?_)
    · replace hm := xif_t q hm
      obtain rfl := Option.some.inj hm
      refine xw_sub (pc := 26) _ ?_ (he _ rfl)
      exact ⟨Or.inl rfl, Or.inl rfl, Or.inl rfl, trivial⟩
    · replace hm := xif_f q hm
      refine xw_aload_n (pc := 14) (i := 1) (x := x1) C dX8_copyRow_14 rfl rfl ?_
      refine xw_iload_n (pc := 15) (i := 2) (x := x2) C dX8_copyRow_15 rfl rfl ?_
      refine xw_aload_n (pc := 16) (i := 0) (x := x0) C dX8_copyRow_16 rfl rfl ?_
      refine xw_iload_n (pc := 17) (i := 2) (x := x2) C dX8_copyRow_17 rfl rfl ?_
      obtain ⟨v5, q6, hm⟩ := xbind hm
      refine xw_iaload (pc := 18) C dX8_copyRow_18 q6 ?_
      obtain ⟨h7, q8, hm⟩ := xbind hm
      refine xw_iastore (pc := 19) C dX8_copyRow_19 q8 ?_
      refine xw_iinc (pc := 20) (i := 2) (x := x2) (v := (x2 + (1 : Int32))) (L' := [some (.ref x0), some (.ref x1), some (.int (x2 + (1 : Int32)))]) C dX8_copyRow_20 rfl (congrArg (HAdd.hAdd _) xk_i_1) (Nat.le_of_ble_eq_true rfl) rfl ?_
      refine xw_goto (pc := 23) (tgt := 2) C dX8_copyRow_23 (by decide) ?_
      obtain rfl := Option.some.inj hm
      refine xw_sub (pc := 2) _ ?_ (hc _ rfl)
      exact ⟨Or.inr rfl, Or.inr rfl, Or.inr rfl, trivial⟩
set_option maxHeartbeats 4000000 in
set_option maxRecDepth 100000 in
theorem wX8_copyRow {l : Launch} {n sl : Nat} {h : XH} {x0 : Nat} {x1 : Nat} {o : XH} (hm : fX8_copyRow h x0 x1 = some o) : XM l yX8_copyRow cX8_copyRow 3 none 0 0 [.ref x0, .ref x1] h n sl none o n sl := by
  refine xm_of pnX8 [some (.ref x0), some (.ref x1), none] 1 rfl (Nat.le_of_ble_eq_true rfl) ?_
  intro X hT C
  replace C : XOK X RX8 cX8_copyRow 3 "copyRow" none 0 0 := C
  obtain ⟨-, hN, hX⟩ := hT
  unfold fX8_copyRow at hm
  refine xw_iconst (pc := 0) (v := 0) C dX8_copyRow_0 xk_i_0 ?_
  refine xw_istore_n (pc := 1) (i := 2) (x := (0 : Int32)) (L' := [some (.ref x0), some (.ref x1), some (.int (0 : Int32))]) C dX8_copyRow_1 rfl (Nat.le_of_ble_eq_true rfl) rfl ?_
  obtain ⟨e9, q10, hm⟩ := xbind hm
  refine xw_sub (pc := 2) [some (.ref x0), some (.ref x1), some (.int (0 : Int32))] ⟨Or.inr rfl, Or.inr rfl, Or.inr rfl, trivial⟩ ?_
  refine xloop_walk (fX8_copyRow_B2 x0 x1) (fX8_copyRow_P2 X x0 x1 n sl) (fX8_copyRow_E2 X x0 x1 n sl) (fun s' o' => fX8_copyRow_B2_w C hN s' o') 5000 (h, (0 : Int32)) e9 q10 ?_
  show XW X 26 [none, none, none] [] e9 n sl
  obtain rfl := Option.some.inj hm
  exact xw_return (pc := 26) C dX8_copyRow_26 rfl hX
set_option maxHeartbeats 4000000 in
set_option maxRecDepth 100000 in
theorem wX4_copyFrom {l : Launch} {n sl : Nat} {h : XH} {x0 : Nat} {x1 : Nat} {o : XH} (hm : fX4_copyFrom h x0 x1 = some o) : XM l yX4_copyFrom cX4_copyFrom 2 none 1 22 [.ref x0, .ref x1] h n sl none o n sl := by
  refine xm_of pnX4 [some (.ref x0), some (.ref x1)] 0 rfl (Nat.le_of_ble_eq_true rfl) ?_
  intro X hT C
  replace C : XOK X RX4 cX4_copyFrom 2 "copyFrom" none 1 22 := C
  obtain ⟨-, hN, hX⟩ := hT
  unfold fX4_copyFrom at hm
  refine xw_aload_n (pc := 0) (i := 1) (x := x1) C dX4_copyFrom_0 rfl rfl ?_
  obtain ⟨v1, q2, hm⟩ := xbind hm
  refine xw_getR (pc := 1) C dX4_copyFrom_1 fl_X4_9 q2 ?_
  refine xw_aload_n (pc := 4) (i := 0) (x := x0) C dX4_copyFrom_4 rfl rfl ?_
  obtain ⟨v3, q4, hm⟩ := xbind hm
  refine xw_getR (pc := 5) C dX4_copyFrom_5 fl_X4_9 q4 ?_
  obtain ⟨h5, q6, hm⟩ := xbind hm
  refine xw_callSN0 (pc := 8) (As := [.ref v1, .ref v3]) (st := []) C dX4_copyFrom_8 (wX8_copyRow q6) dd_X8_copyRow lk_X4_22 ds_X8_copyRow rfl (Nat.le_of_ble_eq_true rfl) (Nat.le_of_ble_eq_true rfl) (Nat.le_of_ble_eq_true rfl) ⟨Nat.le_refl _, Nat.le_refl _⟩ hN ?_
  refine xw_aload_n (pc := 11) (i := 1) (x := x1) C dX4_copyFrom_11 rfl rfl ?_
  obtain ⟨v7, q8, hm⟩ := xbind hm
  refine xw_getR (pc := 12) C dX4_copyFrom_12 fl_X4_15 q8 ?_
  refine xw_aload_n (pc := 15) (i := 0) (x := x0) C dX4_copyFrom_15 rfl rfl ?_
  obtain ⟨v9, q10, hm⟩ := xbind hm
  refine xw_getR (pc := 16) C dX4_copyFrom_16 fl_X4_15 q10 ?_
  obtain ⟨h11, q12, hm⟩ := xbind hm
  refine xw_callSN0 (pc := 19) (As := [.ref v7, .ref v9]) (st := []) C dX4_copyFrom_19 (wX8_copyRow q12) dd_X8_copyRow lk_X4_22 ds_X8_copyRow rfl (Nat.le_of_ble_eq_true rfl) (Nat.le_of_ble_eq_true rfl) (Nat.le_of_ble_eq_true rfl) ⟨Nat.le_refl _, Nat.le_refl _⟩ hN ?_
  refine xw_aload_n (pc := 22) (i := 0) (x := x0) C dX4_copyFrom_22 rfl rfl ?_
  refine xw_aload_n (pc := 23) (i := 1) (x := x1) C dX4_copyFrom_23 rfl rfl ?_
  obtain ⟨v13, q14, hm⟩ := xbind hm
  refine xw_getI (pc := 24) C dX4_copyFrom_24 fl_X4_26 q14 ?_
  obtain ⟨h15, q16, hm⟩ := xbind hm
  refine xw_put (pc := 27) C dX4_copyFrom_27 fl_X4_26 q16 (fun _ => rfl) (fun _ => rfl) ?_
  refine xw_aload_n (pc := 30) (i := 0) (x := x0) C dX4_copyFrom_30 rfl rfl ?_
  refine xw_aload_n (pc := 31) (i := 1) (x := x1) C dX4_copyFrom_31 rfl rfl ?_
  obtain ⟨v17, q18, hm⟩ := xbind hm
  refine xw_getI (pc := 32) C dX4_copyFrom_32 fl_X4_18 q18 ?_
  obtain ⟨h19, q20, hm⟩ := xbind hm
  refine xw_put (pc := 35) C dX4_copyFrom_35 fl_X4_18 q20 (fun _ => rfl) (fun _ => rfl) ?_
  obtain rfl := Option.some.inj hm
  exact xw_return (pc := 38) C dX4_copyFrom_38 rfl hX
set_option maxHeartbeats 4000000 in
set_option maxRecDepth 100000 in
theorem wX6_copyFrom {l : Launch} {n sl : Nat} {h : XH} {x0 : Nat} {x1 : Nat} {o : XH} (hm : fX6_copyFrom h x0 x1 = some o) : XM l yX6_copyFrom cX6_copyFrom 2 none 1 22 [.ref x0, .ref x1] h n sl none o n sl := by
  refine xm_of pnX6 [some (.ref x0), some (.ref x1)] 0 rfl (Nat.le_of_ble_eq_true rfl) ?_
  intro X hT C
  replace C : XOK X RX6 cX6_copyFrom 2 "copyFrom" none 1 22 := C
  obtain ⟨-, hN, hX⟩ := hT
  unfold fX6_copyFrom at hm
  refine xw_aload_n (pc := 0) (i := 1) (x := x1) C dX6_copyFrom_0 rfl rfl ?_
  obtain ⟨v1, q2, hm⟩ := xbind hm
  refine xw_getR (pc := 1) C dX6_copyFrom_1 fl_X6_9 q2 ?_
  refine xw_aload_n (pc := 4) (i := 0) (x := x0) C dX6_copyFrom_4 rfl rfl ?_
  obtain ⟨v3, q4, hm⟩ := xbind hm
  refine xw_getR (pc := 5) C dX6_copyFrom_5 fl_X6_9 q4 ?_
  obtain ⟨h5, q6, hm⟩ := xbind hm
  refine xw_callSN0 (pc := 8) (As := [.ref v1, .ref v3]) (st := []) C dX6_copyFrom_8 (wX8_copyRow q6) dd_X8_copyRow lk_X6_29 ds_X8_copyRow rfl (Nat.le_of_ble_eq_true rfl) (Nat.le_of_ble_eq_true rfl) (Nat.le_of_ble_eq_true rfl) ⟨Nat.le_refl _, Nat.le_refl _⟩ hN ?_
  refine xw_aload_n (pc := 11) (i := 1) (x := x1) C dX6_copyFrom_11 rfl rfl ?_
  obtain ⟨v7, q8, hm⟩ := xbind hm
  refine xw_getR (pc := 12) C dX6_copyFrom_12 fl_X6_15 q8 ?_
  refine xw_aload_n (pc := 15) (i := 0) (x := x0) C dX6_copyFrom_15 rfl rfl ?_
  obtain ⟨v9, q10, hm⟩ := xbind hm
  refine xw_getR (pc := 16) C dX6_copyFrom_16 fl_X6_15 q10 ?_
  obtain ⟨h11, q12, hm⟩ := xbind hm
  refine xw_callSN0 (pc := 19) (As := [.ref v7, .ref v9]) (st := []) C dX6_copyFrom_19 (wX8_copyRow q12) dd_X8_copyRow lk_X6_29 ds_X8_copyRow rfl (Nat.le_of_ble_eq_true rfl) (Nat.le_of_ble_eq_true rfl) (Nat.le_of_ble_eq_true rfl) ⟨Nat.le_refl _, Nat.le_refl _⟩ hN ?_
  refine xw_aload_n (pc := 22) (i := 1) (x := x1) C dX6_copyFrom_22 rfl rfl ?_
  obtain ⟨v13, q14, hm⟩ := xbind hm
  refine xw_getR (pc := 23) C dX6_copyFrom_23 fl_X6_18 q14 ?_
  refine xw_aload_n (pc := 26) (i := 0) (x := x0) C dX6_copyFrom_26 rfl rfl ?_
  obtain ⟨v15, q16, hm⟩ := xbind hm
  refine xw_getR (pc := 27) C dX6_copyFrom_27 fl_X6_18 q16 ?_
  obtain ⟨h17, q18, hm⟩ := xbind hm
  refine xw_callSN0 (pc := 30) (As := [.ref v13, .ref v15]) (st := []) C dX6_copyFrom_30 (wX8_copyRow q18) dd_X8_copyRow lk_X6_29 ds_X8_copyRow rfl (Nat.le_of_ble_eq_true rfl) (Nat.le_of_ble_eq_true rfl) (Nat.le_of_ble_eq_true rfl) ⟨Nat.le_refl _, Nat.le_refl _⟩ hN ?_
  refine xw_aload_n (pc := 33) (i := 0) (x := x0) C dX6_copyFrom_33 rfl rfl ?_
  refine xw_aload_n (pc := 34) (i := 1) (x := x1) C dX6_copyFrom_34 rfl rfl ?_
  obtain ⟨v19, q20, hm⟩ := xbind hm
  refine xw_getI (pc := 35) C dX6_copyFrom_35 fl_X6_21 q20 ?_
  obtain ⟨h21, q22, hm⟩ := xbind hm
  refine xw_put (pc := 38) C dX6_copyFrom_38 fl_X6_21 q22 (fun _ => rfl) (fun _ => rfl) ?_
  refine xw_aload_n (pc := 41) (i := 0) (x := x0) C dX6_copyFrom_41 rfl rfl ?_
  refine xw_aload_n (pc := 42) (i := 1) (x := x1) C dX6_copyFrom_42 rfl rfl ?_
  obtain ⟨v23, q24, hm⟩ := xbind hm
  refine xw_getI (pc := 43) C dX6_copyFrom_43 fl_X6_33 q24 ?_
  obtain ⟨h25, q26, hm⟩ := xbind hm
  refine xw_put (pc := 46) C dX6_copyFrom_46 fl_X6_33 q26 (fun _ => rfl) (fun _ => rfl) ?_
  refine xw_aload_n (pc := 49) (i := 0) (x := x0) C dX6_copyFrom_49 rfl rfl ?_
  refine xw_aload_n (pc := 50) (i := 1) (x := x1) C dX6_copyFrom_50 rfl rfl ?_
  obtain ⟨v27, q28, hm⟩ := xbind hm
  refine xw_getI (pc := 51) C dX6_copyFrom_51 fl_X6_36 q28 ?_
  obtain ⟨h29, q30, hm⟩ := xbind hm
  refine xw_put (pc := 54) C dX6_copyFrom_54 fl_X6_36 q30 (fun _ => rfl) (fun _ => rfl) ?_
  refine xw_aload_n (pc := 57) (i := 0) (x := x0) C dX6_copyFrom_57 rfl rfl ?_
  refine xw_aload_n (pc := 58) (i := 1) (x := x1) C dX6_copyFrom_58 rfl rfl ?_
  obtain ⟨v31, q32, hm⟩ := xbind hm
  refine xw_getI (pc := 59) C dX6_copyFrom_59 fl_X6_39 q32 ?_
  obtain ⟨h33, q34, hm⟩ := xbind hm
  refine xw_put (pc := 62) C dX6_copyFrom_62 fl_X6_39 q34 (fun _ => rfl) (fun _ => rfl) ?_
  obtain rfl := Option.some.inj hm
  exact xw_return (pc := 65) C dX6_copyFrom_65 rfl hX
set_option maxHeartbeats 4000000 in
set_option maxRecDepth 100000 in
theorem wX5_copyFrom {l : Launch} {n sl : Nat} {h : XH} {x0 : Nat} {x1 : Nat} {o : XH} (hm : fX5_copyFrom h x0 x1 = some o) : XM l yX5_copyFrom cX5_copyFrom 2 none 2 43 [.ref x0, .ref x1] h n sl none o n sl := by
  refine xm_of pnX5 [some (.ref x0), some (.ref x1)] 0 rfl (Nat.le_of_ble_eq_true rfl) ?_
  intro X hT C
  replace C : XOK X RX5 cX5_copyFrom 2 "copyFrom" none 2 43 := C
  obtain ⟨-, hN, hX⟩ := hT
  unfold fX5_copyFrom at hm
  refine xw_aload_n (pc := 0) (i := 0) (x := x0) C dX5_copyFrom_0 rfl rfl ?_
  obtain ⟨v1, q2, hm⟩ := xbind hm
  refine xw_getR (pc := 1) C dX5_copyFrom_1 fl_X5_10 q2 ?_
  refine xw_aload_n (pc := 4) (i := 1) (x := x1) C dX5_copyFrom_4 rfl rfl ?_
  obtain ⟨v3, q4, hm⟩ := xbind hm
  refine xw_getR (pc := 5) C dX5_copyFrom_5 fl_X5_10 q4 ?_
  obtain ⟨_, q5, hm⟩ := xbind hm
  obtain ⟨h6, q7, hm⟩ := xbind hm
  refine xw_callV0 (pc := 8) (As := [.ref v3]) (st := []) C dX5_copyFrom_8 (wX6_copyFrom q7) dd_X6_copyFrom lk_X5_37 dv_X6_copyFrom (xco_spec q5) rfl (Nat.le_of_ble_eq_true rfl) (Nat.le_of_ble_eq_true rfl) (Nat.le_of_ble_eq_true rfl) ⟨Nat.le_refl _, Nat.le_refl _⟩ hN ?_
  refine xw_aload_n (pc := 11) (i := 0) (x := x0) C dX5_copyFrom_11 rfl rfl ?_
  obtain ⟨v8, q9, hm⟩ := xbind hm
  refine xw_getR (pc := 12) C dX5_copyFrom_12 fl_X5_19 q9 ?_
  refine xw_aload_n (pc := 15) (i := 1) (x := x1) C dX5_copyFrom_15 rfl rfl ?_
  obtain ⟨v10, q11, hm⟩ := xbind hm
  refine xw_getR (pc := 16) C dX5_copyFrom_16 fl_X5_19 q11 ?_
  obtain ⟨_, q12, hm⟩ := xbind hm
  obtain ⟨h13, q14, hm⟩ := xbind hm
  refine xw_callV0 (pc := 19) (As := [.ref v10]) (st := []) C dX5_copyFrom_19 (wX2_copyFrom q14) dd_X2_copyFrom lk_X5_41 dv_X2_copyFrom (xco_spec q12) rfl (Nat.le_of_ble_eq_true rfl) (Nat.le_of_ble_eq_true rfl) (Nat.le_of_ble_eq_true rfl) ⟨Nat.le_refl _, Nat.le_refl _⟩ hN ?_
  refine xw_aload_n (pc := 22) (i := 0) (x := x0) C dX5_copyFrom_22 rfl rfl ?_
  obtain ⟨v15, q16, hm⟩ := xbind hm
  refine xw_getR (pc := 23) C dX5_copyFrom_23 fl_X5_26 q16 ?_
  refine xw_aload_n (pc := 26) (i := 1) (x := x1) C dX5_copyFrom_26 rfl rfl ?_
  obtain ⟨v17, q18, hm⟩ := xbind hm
  refine xw_getR (pc := 27) C dX5_copyFrom_27 fl_X5_26 q18 ?_
  obtain ⟨_, q19, hm⟩ := xbind hm
  obtain ⟨h20, q21, hm⟩ := xbind hm
  refine xw_callV0 (pc := 30) (As := [.ref v17]) (st := []) C dX5_copyFrom_30 (wX4_copyFrom q21) dd_X4_copyFrom lk_X5_44 dv_X4_copyFrom (xco_spec q19) rfl (Nat.le_of_ble_eq_true rfl) (Nat.le_of_ble_eq_true rfl) (Nat.le_of_ble_eq_true rfl) ⟨Nat.le_refl _, Nat.le_refl _⟩ hN ?_
  refine xw_aload_n (pc := 33) (i := 0) (x := x0) C dX5_copyFrom_33 rfl rfl ?_
  obtain ⟨v22, q23, hm⟩ := xbind hm
  refine xw_getR (pc := 34) C dX5_copyFrom_34 fl_X5_33 q23 ?_
  refine xw_aload_n (pc := 37) (i := 1) (x := x1) C dX5_copyFrom_37 rfl rfl ?_
  obtain ⟨v24, q25, hm⟩ := xbind hm
  refine xw_getR (pc := 38) C dX5_copyFrom_38 fl_X5_33 q25 ?_
  obtain ⟨_, q26, hm⟩ := xbind hm
  obtain ⟨h27, q28, hm⟩ := xbind hm
  refine xw_callV0 (pc := 41) (As := [.ref v24]) (st := []) C dX5_copyFrom_41 (wX1_copyFrom q28) dd_X1_copyFrom lk_X5_47 dv_X1_copyFrom (xco_spec q26) rfl (Nat.le_of_ble_eq_true rfl) (Nat.le_of_ble_eq_true rfl) (Nat.le_of_ble_eq_true rfl) ⟨Nat.le_refl _, Nat.le_refl _⟩ hN ?_
  obtain rfl := Option.some.inj hm
  exact xw_return (pc := 44) C dX5_copyFrom_44 rfl hX
set_option maxHeartbeats 4000000 in
set_option maxRecDepth 100000 in
theorem wX3_remember {l : Launch} {n sl : Nat} {h : XH} {x0 : Nat} {x1 : Nat} {o : XH} (hm : fX3_remember h x0 x1 = some o) : XM l yX3_remember cX3_remember 3 none 3 64 [.ref x0, .ref x1] h n sl none o n sl := by
  refine xm_of pnX3 [some (.ref x0), some (.ref x1), none] 1 rfl (Nat.le_of_ble_eq_true rfl) ?_
  intro X hT C
  replace C : XOK X RX3 cX3_remember 3 "remember" none 3 64 := C
  obtain ⟨-, hN, hX⟩ := hT
  unfold fX3_remember at hm
  refine xw_aload_n (pc := 0) (i := 0) (x := x0) C dX3_remember_0 rfl rfl ?_
  refine xw_aload_n (pc := 1) (i := 0) (x := x0) C dX3_remember_1 rfl rfl ?_
  obtain ⟨v1, q2, hm⟩ := xbind hm
  refine xw_getI (pc := 2) C dX3_remember_2 fl_X3_18 q2 ?_
  obtain ⟨_, q3, hm⟩ := xbind hm
  obtain ⟨v4, q5, hm⟩ := xbind hm
  refine xw_callV1 (pc := 5) (As := [.int v1]) (st := []) C dX3_remember_5 (wX3_slotAt q5) dd_X3_slotAt lk_X3_22 dv_X3_slotAt (xco_spec q3) rfl (Nat.le_of_ble_eq_true rfl) (Nat.le_of_ble_eq_true rfl) (Nat.le_of_ble_eq_true rfl) ⟨Nat.le_refl _, Nat.le_refl _⟩ hN ?_
  refine xw_astore_nQ (pc := 8) (i := 2) (x := v4) (L' := [some (.ref x0), some (.ref x1), some (va_rf v4)]) C dX3_remember_8 rfl (Nat.le_of_ble_eq_true rfl) rfl ?_
  refine xw_aload_nQ (pc := 9) (i := 2) (x := v4) C dX3_remember_9 rfl rfl ?_
  refine xw_ifnonnull (pc := 10) (x := v4) (tgt := 14) C dX3_remember_10 (by decide) (fun k6 q => ?_) (fun q => ?_)
  · replace hm := xqc_s q hm
    subst q
    refine xw_aload_n (pc := 14) (i := 2) (x := k6) C dX3_remember_14 rfl rfl ?_
    refine xw_aload_n (pc := 15) (i := 1) (x := x1) C dX3_remember_15 rfl rfl ?_
    obtain ⟨_, q7, hm⟩ := xbind hm
    obtain ⟨h8, q9, hm⟩ := xbind hm
    refine xw_callV0 (pc := 16) (As := [.ref x1]) (st := []) C dX3_remember_16 (wX5_copyFrom q9) dd_X5_copyFrom lk_X3_26 dv_X5_copyFrom (xco_spec q7) rfl (Nat.le_of_ble_eq_true rfl) (Nat.le_of_ble_eq_true rfl) (Nat.le_of_ble_eq_true rfl) ⟨Nat.le_refl _, Nat.le_refl _⟩ hN ?_
    refine xw_aload_n (pc := 19) (i := 0) (x := x0) C dX3_remember_19 rfl rfl ?_
    refine xw_aload_n (pc := 20) (i := 0) (x := x0) C dX3_remember_20 rfl rfl ?_
    obtain ⟨v10, q11, hm⟩ := xbind hm
    refine xw_getI (pc := 21) C dX3_remember_21 fl_X3_18 q11 ?_
    refine xw_iconst (pc := 24) (v := 1) C dX3_remember_24 xk_i_1 ?_
    refine xw_iadd (pc := 25) C dX3_remember_25 ?_
    refine xw_bipush (pc := 26) (v := 8) C dX3_remember_26 xk_b_8 ?_
    obtain ⟨v12, q13, hm⟩ := xbind hm
    refine xw_callSN1 (pc := 28) (As := [.int (v10 + (1 : Int32)), .int (8 : Int32)]) (st := [.ref x0]) C dX3_remember_28 (wX8_mod q13) dd_X8_mod lk_X3_30 ds_X8_mod rfl (Nat.le_of_ble_eq_true rfl) (Nat.le_of_ble_eq_true rfl) (Nat.le_of_ble_eq_true rfl) ⟨Nat.le_refl _, Nat.le_refl _⟩ hN ?_
    obtain ⟨h14, q15, hm⟩ := xbind hm
    refine xw_put (pc := 31) C dX3_remember_31 fl_X3_18 q15 (fun _ => rfl) (fun _ => rfl) ?_
    refine xw_aload_n (pc := 34) (i := 0) (x := x0) C dX3_remember_34 rfl rfl ?_
    obtain ⟨v16, q17, hm⟩ := xbind hm
    refine xw_getI (pc := 35) C dX3_remember_35 fl_X3_34 q17 ?_
    refine xw_bipush (pc := 38) (v := 8) C dX3_remember_38 xk_b_8 ?_
    refine xw_icmp_ge (pc := 40) (tgt := 53) C dX3_remember_40 (by decide) (fun q => ?_) (fun q => ?_)
    · replace hm := xif_t q hm
      obtain rfl := Option.some.inj hm
      exact xw_return (pc := 53) C dX3_remember_53 rfl hX
    · replace hm := xif_f q hm
      refine xw_aload_n (pc := 43) (i := 0) (x := x0) C dX3_remember_43 rfl rfl ?_
      refine xw_dup (pc := 44) C dX3_remember_44 rfl ?_
      obtain ⟨v18, q19, hm⟩ := xbind hm
      refine xw_getI (pc := 45) C dX3_remember_45 fl_X3_34 q19 ?_
      refine xw_iconst (pc := 48) (v := 1) C dX3_remember_48 xk_i_1 ?_
      refine xw_iadd (pc := 49) C dX3_remember_49 ?_
      obtain ⟨h20, q21, hm⟩ := xbind hm
      refine xw_put (pc := 50) C dX3_remember_50 fl_X3_34 q21 (fun _ => rfl) (fun _ => rfl) ?_
      obtain rfl := Option.some.inj hm
      exact xw_return (pc := 53) C dX3_remember_53 rfl hX
  · replace hm := xqc_n q hm
    obtain rfl := Option.some.inj hm
    exact xw_return (pc := 13) C dX3_remember_13 rfl hX
set_option maxHeartbeats 4000000 in
set_option maxRecDepth 100000 in
theorem wX3_restore {l : Launch} {n sl : Nat} {h : XH} {x0 : Nat} {x1 : Nat} {o : XH} (hm : fX3_restore h x0 x1 = some o) : XM l yX3_restore cX3_restore 4 none 3 64 [.ref x0, .ref x1] h n sl none o n sl := by
  refine xm_of pnX3 [some (.ref x0), some (.ref x1), none, none] 2 rfl (Nat.le_of_ble_eq_true rfl) ?_
  intro X hT C
  replace C : XOK X RX3 cX3_restore 4 "restore" none 3 64 := C
  obtain ⟨-, hN, hX⟩ := hT
  unfold fX3_restore at hm
  refine xw_aload_n (pc := 0) (i := 0) (x := x0) C dX3_restore_0 rfl rfl ?_
  obtain ⟨v1, q2, hm⟩ := xbind hm
  refine xw_getI (pc := 1) C dX3_restore_1 fl_X3_18 q2 ?_
  refine xw_iconst (pc := 4) (v := 1) C dX3_restore_4 xk_i_1 ?_
  refine xw_isub (pc := 5) C dX3_restore_5 ?_
  refine xw_bipush (pc := 6) (v := 8) C dX3_restore_6 xk_b_8 ?_
  obtain ⟨v3, q4, hm⟩ := xbind hm
  refine xw_callSN1 (pc := 8) (As := [.int (v1 - (1 : Int32)), .int (8 : Int32)]) (st := []) C dX3_restore_8 (wX8_mod q4) dd_X8_mod lk_X3_30 ds_X8_mod rfl (Nat.le_of_ble_eq_true rfl) (Nat.le_of_ble_eq_true rfl) (Nat.le_of_ble_eq_true rfl) ⟨Nat.le_refl _, Nat.le_refl _⟩ hN ?_
  refine xw_istore_n (pc := 11) (i := 2) (x := v3) (L' := [some (.ref x0), some (.ref x1), some (.int v3), none]) C dX3_restore_11 rfl (Nat.le_of_ble_eq_true rfl) rfl ?_
  refine xw_aload_n (pc := 12) (i := 0) (x := x0) C dX3_restore_12 rfl rfl ?_
  refine xw_iload_n (pc := 13) (i := 2) (x := v3) C dX3_restore_13 rfl rfl ?_
  obtain ⟨_, q5, hm⟩ := xbind hm
  obtain ⟨v6, q7, hm⟩ := xbind hm
  refine xw_callV1 (pc := 14) (As := [.int v3]) (st := []) C dX3_restore_14 (wX3_slotAt q7) dd_X3_slotAt lk_X3_22 dv_X3_slotAt (xco_spec q5) rfl (Nat.le_of_ble_eq_true rfl) (Nat.le_of_ble_eq_true rfl) (Nat.le_of_ble_eq_true rfl) ⟨Nat.le_refl _, Nat.le_refl _⟩ hN ?_
  refine xw_astore_nQ (pc := 17) (i := 3) (x := v6) (L' := [some (.ref x0), some (.ref x1), some (.int v3), some (va_rf v6)]) C dX3_restore_17 rfl (Nat.le_of_ble_eq_true rfl) rfl ?_
  refine xw_aload_nQ (pc := 18) (i := 3) (x := v6) C dX3_restore_18 rfl rfl ?_
  refine xw_ifnull (pc := 19) (x := v6) (tgt := 29) C dX3_restore_19 (by decide) (fun q => ?_) (fun k8 q => ?_)
  · replace hm := xqc_n q hm
    obtain rfl := Option.some.inj hm
    exact xw_return (pc := 29) C dX3_restore_29 rfl hX
  · replace hm := xqc_s q hm
    subst q
    refine xw_aload_n (pc := 22) (i := 0) (x := x0) C dX3_restore_22 rfl rfl ?_
    obtain ⟨v9, q10, hm⟩ := xbind hm
    refine xw_getI (pc := 23) C dX3_restore_23 fl_X3_34 q10 ?_
    refine xw_if_ne (pc := 26) (tgt := 30) C dX3_restore_26 (by decide) (fun q => ?_) (fun q => ?_)
    · replace hm := xif_f q hm
      refine xw_aload_n (pc := 30) (i := 1) (x := x1) C dX3_restore_30 rfl rfl ?_
      refine xw_aload_n (pc := 31) (i := 3) (x := k8) C dX3_restore_31 rfl rfl ?_
      obtain ⟨_, q11, hm⟩ := xbind hm
      obtain ⟨h12, q13, hm⟩ := xbind hm
      refine xw_callV0 (pc := 32) (As := [.ref k8]) (st := []) C dX3_restore_32 (wX5_copyFrom q13) dd_X5_copyFrom lk_X3_26 dv_X5_copyFrom (xco_spec q11) rfl (Nat.le_of_ble_eq_true rfl) (Nat.le_of_ble_eq_true rfl) (Nat.le_of_ble_eq_true rfl) ⟨Nat.le_refl _, Nat.le_refl _⟩ hN ?_
      refine xw_aload_n (pc := 35) (i := 0) (x := x0) C dX3_restore_35 rfl rfl ?_
      refine xw_iload_n (pc := 36) (i := 2) (x := v3) C dX3_restore_36 rfl rfl ?_
      obtain ⟨h14, q15, hm⟩ := xbind hm
      refine xw_put (pc := 37) C dX3_restore_37 fl_X3_18 q15 (fun _ => rfl) (fun _ => rfl) ?_
      refine xw_aload_n (pc := 40) (i := 0) (x := x0) C dX3_restore_40 rfl rfl ?_
      refine xw_dup (pc := 41) C dX3_restore_41 rfl ?_
      obtain ⟨v16, q17, hm⟩ := xbind hm
      refine xw_getI (pc := 42) C dX3_restore_42 fl_X3_34 q17 ?_
      refine xw_iconst (pc := 45) (v := 1) C dX3_restore_45 xk_i_1 ?_
      refine xw_isub (pc := 46) C dX3_restore_46 ?_
      obtain ⟨h18, q19, hm⟩ := xbind hm
      refine xw_put (pc := 47) C dX3_restore_47 fl_X3_34 q19 (fun _ => rfl) (fun _ => rfl) ?_
      obtain rfl := Option.some.inj hm
      exact xw_return (pc := 50) C dX3_restore_50 rfl hX
    · replace hm := xif_t q hm
      obtain rfl := Option.some.inj hm
      exact xw_return (pc := 29) C dX3_restore_29 rfl hX
set_option maxHeartbeats 4000000 in
set_option maxRecDepth 100000 in
theorem wX4_add {l : Launch} {n sl : Nat} {h : XH} {x0 : Nat} {x1 : Int32} {x2 : Int32} {o : XH} (hm : fX4_add h x0 x1 x2 = some o) : XM l yX4_add cX4_add 3 none 1 22 [.ref x0, .int x1, .int x2] h n sl none o n sl := by
  refine xm_of pnX4 [some (.ref x0), some (.int x1), some (.int x2)] 0 rfl (Nat.le_of_ble_eq_true rfl) ?_
  intro X hT C
  replace C : XOK X RX4 cX4_add 3 "add" none 1 22 := C
  obtain ⟨-, hN, hX⟩ := hT
  unfold fX4_add at hm
  refine xw_aload_n (pc := 0) (i := 0) (x := x0) C dX4_add_0 rfl rfl ?_
  obtain ⟨v1, q2, hm⟩ := xbind hm
  refine xw_getR (pc := 1) C dX4_add_1 fl_X4_9 q2 ?_
  refine xw_aload_n (pc := 4) (i := 0) (x := x0) C dX4_add_4 rfl rfl ?_
  obtain ⟨v3, q4, hm⟩ := xbind hm
  refine xw_getI (pc := 5) C dX4_add_5 fl_X4_26 q4 ?_
  refine xw_iload_n (pc := 8) (i := 1) (x := x1) C dX4_add_8 rfl rfl ?_
  obtain ⟨h5, q6, hm⟩ := xbind hm
  refine xw_callSN0 (pc := 9) (As := [.ref v1, .int v3, .int x1]) (st := []) C dX4_add_9 (wX8_put q6) dd_X8_put lk_X4_29 ds_X8_put rfl (Nat.le_of_ble_eq_true rfl) (Nat.le_of_ble_eq_true rfl) (Nat.le_of_ble_eq_true rfl) ⟨Nat.le_refl _, Nat.le_refl _⟩ hN ?_
  refine xw_aload_n (pc := 12) (i := 0) (x := x0) C dX4_add_12 rfl rfl ?_
  obtain ⟨v7, q8, hm⟩ := xbind hm
  refine xw_getR (pc := 13) C dX4_add_13 fl_X4_15 q8 ?_
  refine xw_aload_n (pc := 16) (i := 0) (x := x0) C dX4_add_16 rfl rfl ?_
  obtain ⟨v9, q10, hm⟩ := xbind hm
  refine xw_getI (pc := 17) C dX4_add_17 fl_X4_26 q10 ?_
  refine xw_iload_n (pc := 20) (i := 2) (x := x2) C dX4_add_20 rfl rfl ?_
  obtain ⟨h11, q12, hm⟩ := xbind hm
  refine xw_callSN0 (pc := 21) (As := [.ref v7, .int v9, .int x2]) (st := []) C dX4_add_21 (wX8_put q12) dd_X8_put lk_X4_29 ds_X8_put rfl (Nat.le_of_ble_eq_true rfl) (Nat.le_of_ble_eq_true rfl) (Nat.le_of_ble_eq_true rfl) ⟨Nat.le_refl _, Nat.le_refl _⟩ hN ?_
  refine xw_aload_n (pc := 24) (i := 0) (x := x0) C dX4_add_24 rfl rfl ?_
  refine xw_dup (pc := 25) C dX4_add_25 rfl ?_
  obtain ⟨v13, q14, hm⟩ := xbind hm
  refine xw_getI (pc := 26) C dX4_add_26 fl_X4_26 q14 ?_
  refine xw_iconst (pc := 29) (v := 1) C dX4_add_29 xk_i_1 ?_
  refine xw_iadd (pc := 30) C dX4_add_30 ?_
  obtain ⟨h15, q16, hm⟩ := xbind hm
  refine xw_put (pc := 31) C dX4_add_31 fl_X4_26 q16 (fun _ => rfl) (fun _ => rfl) ?_
  obtain rfl := Option.some.inj hm
  exact xw_return (pc := 34) C dX4_add_34 rfl hX
def fX4_remove_P2 (X : XCtx) (x0 : Nat) (n sl : Nat) (s : (XH × Int32)) : Prop := XW X 2 [some (.ref x0), none, some (.int s.2)] [] s.1 n sl
def fX4_remove_E2 (X : XCtx) (x0 : Nat) (n sl : Nat) (e : XH) : Prop := XW X 54 [some (.ref x0), none, none] [] e n sl
set_option maxHeartbeats 4000000 in
set_option maxRecDepth 100000 in
theorem fX4_remove_B2_w {X : XCtx} (C : XOK X RX4 cX4_remove 3 "remove" none 1 22) {n sl : Nat} (hN : XN X n sl) {x0 : Nat} (s : (XH × Int32)) (o : (XH × Int32) ⊕ XH) (hm : fX4_remove_B2 x0 s = some o) (hc : ∀ s', o = .inl s' → fX4_remove_P2 X x0 n sl s') (he : ∀ e', o = .inr e' → fX4_remove_E2 X x0 n sl e') : fX4_remove_P2 X x0 n sl s := by
  obtain ⟨h, x2⟩ := s
  show XW X 2 [some (.ref x0), none, some (.int x2)] [] h n sl
  replace hm : fX4_remove_b2 x0 h x2 = some o := hm
  unfold fX4_remove_b2 at hm
  refine xw_iload_n (pc := 2) (i := 2) (x := x2) C dX4_remove_2 rfl rfl ?_
  refine xw_iconst (pc := 3) (v := 1) C dX4_remove_3 xk_i_1 ?_
  refine xw_iadd (pc := 4) C dX4_remove_4 ?_
  refine xw_aload_n (pc := 5) (i := 0) (x := x0) C dX4_remove_5 rfl rfl ?_
  obtain ⟨v1, q2, hm⟩ := xbind hm
  refine xw_getI (pc := 6) C dX4_remove_6 fl_X4_26 q2 ?_
  refine xw_icmp_ge (pc := 9) (tgt := 54) C dX4_remove_9 (by decide) (fun q => ?_) (fun q => ?_)
  · replace hm := xif_t q hm
    obtain rfl := Option.some.inj hm
    refine xw_sub (pc := 54) _ ?_ (he _ rfl)
    exact ⟨Or.inr rfl, Or.inl rfl, Or.inl rfl, trivial⟩
  · replace hm := xif_f q hm
    refine xw_aload_n (pc := 12) (i := 0) (x := x0) C dX4_remove_12 rfl rfl ?_
    obtain ⟨v3, q4, hm⟩ := xbind hm
    refine xw_getR (pc := 13) C dX4_remove_13 fl_X4_9 q4 ?_
    refine xw_iload_n (pc := 16) (i := 2) (x := x2) C dX4_remove_16 rfl rfl ?_
    refine xw_aload_n (pc := 17) (i := 0) (x := x0) C dX4_remove_17 rfl rfl ?_
    obtain ⟨v5, q6, hm⟩ := xbind hm
    refine xw_getR (pc := 18) C dX4_remove_18 fl_X4_9 q6 ?_
    refine xw_iload_n (pc := 21) (i := 2) (x := x2) C dX4_remove_21 rfl rfl ?_
    refine xw_iconst (pc := 22) (v := 1) C dX4_remove_22 xk_i_1 ?_
    refine xw_iadd (pc := 23) C dX4_remove_23 ?_
    obtain ⟨v7, q8, hm⟩ := xbind hm
    refine xw_callSN1 (pc := 24) (As := [.ref v5, .int (x2 + (1 : Int32))]) (st := [.int x2, .ref v3]) C dX4_remove_24 (wX8_at q8) dd_X8_at lk_X4_33 ds_X8_at rfl (Nat.le_of_ble_eq_true rfl) (Nat.le_of_ble_eq_true rfl) (Nat.le_of_ble_eq_true rfl) ⟨Nat.le_refl _, Nat.le_refl _⟩ hN ?_
    obtain ⟨h9, q10, hm⟩ := xbind hm
    refine xw_callSN0 (pc := 27) (As := [.ref v3, .int x2, .int v7]) (st := []) C dX4_remove_27 (wX8_put q10) dd_X8_put lk_X4_29 ds_X8_put rfl (Nat.le_of_ble_eq_true rfl) (Nat.le_of_ble_eq_true rfl) (Nat.le_of_ble_eq_true rfl) ⟨Nat.le_refl _, Nat.le_refl _⟩ hN ?_
    refine xw_aload_n (pc := 30) (i := 0) (x := x0) C dX4_remove_30 rfl rfl ?_
    obtain ⟨v11, q12, hm⟩ := xbind hm
    refine xw_getR (pc := 31) C dX4_remove_31 fl_X4_15 q12 ?_
    refine xw_iload_n (pc := 34) (i := 2) (x := x2) C dX4_remove_34 rfl rfl ?_
    refine xw_aload_n (pc := 35) (i := 0) (x := x0) C dX4_remove_35 rfl rfl ?_
    obtain ⟨v13, q14, hm⟩ := xbind hm
    refine xw_getR (pc := 36) C dX4_remove_36 fl_X4_15 q14 ?_
    refine xw_iload_n (pc := 39) (i := 2) (x := x2) C dX4_remove_39 rfl rfl ?_
    refine xw_iconst (pc := 40) (v := 1) C dX4_remove_40 xk_i_1 ?_
    refine xw_iadd (pc := 41) C dX4_remove_41 ?_
    obtain ⟨v15, q16, hm⟩ := xbind hm
    refine xw_callSN1 (pc := 42) (As := [.ref v13, .int (x2 + (1 : Int32))]) (st := [.int x2, .ref v11]) C dX4_remove_42 (wX8_at q16) dd_X8_at lk_X4_33 ds_X8_at rfl (Nat.le_of_ble_eq_true rfl) (Nat.le_of_ble_eq_true rfl) (Nat.le_of_ble_eq_true rfl) ⟨Nat.le_refl _, Nat.le_refl _⟩ hN ?_
    obtain ⟨h17, q18, hm⟩ := xbind hm
    refine xw_callSN0 (pc := 45) (As := [.ref v11, .int x2, .int v15]) (st := []) C dX4_remove_45 (wX8_put q18) dd_X8_put lk_X4_29 ds_X8_put rfl (Nat.le_of_ble_eq_true rfl) (Nat.le_of_ble_eq_true rfl) (Nat.le_of_ble_eq_true rfl) ⟨Nat.le_refl _, Nat.le_refl _⟩ hN ?_
    refine xw_iinc (pc := 48) (i := 2) (x := x2) (v := (x2 + (1 : Int32))) (L' := [some (.ref x0), none, some (.int (x2 + (1 : Int32)))]) C dX4_remove_48 rfl (congrArg (HAdd.hAdd _) xk_i_1) (Nat.le_of_ble_eq_true rfl) rfl ?_
    refine xw_goto (pc := 51) (tgt := 2) C dX4_remove_51 (by decide) ?_
    obtain rfl := Option.some.inj hm
    refine xw_sub (pc := 2) _ ?_ (hc _ rfl)
    exact ⟨Or.inr rfl, Or.inl rfl, Or.inr rfl, trivial⟩
set_option maxHeartbeats 4000000 in
set_option maxRecDepth 100000 in
theorem wX4_remove {l : Launch} {n sl : Nat} {h : XH} {x0 : Nat} {x1 : Int32} {o : XH} (hm : fX4_remove h x0 x1 = some o) : XM l yX4_remove cX4_remove 3 none 1 22 [.ref x0, .int x1] h n sl none o n sl := by
  refine xm_of pnX4 [some (.ref x0), some (.int x1), none] 1 rfl (Nat.le_of_ble_eq_true rfl) ?_
  intro X hT C
  replace C : XOK X RX4 cX4_remove 3 "remove" none 1 22 := C
  obtain ⟨-, hN, hX⟩ := hT
  unfold fX4_remove at hm
  refine xw_iload_n (pc := 0) (i := 1) (x := x1) C dX4_remove_0 rfl rfl ?_
  refine xw_istore_n (pc := 1) (i := 2) (x := x1) (L' := [some (.ref x0), some (.int x1), some (.int x1)]) C dX4_remove_1 rfl (Nat.le_of_ble_eq_true rfl) rfl ?_
  obtain ⟨e19, q20, hm⟩ := xbind hm
  refine xw_sub (pc := 2) [some (.ref x0), none, some (.int x1)] ⟨Or.inr rfl, Or.inl rfl, Or.inr rfl, trivial⟩ ?_
  refine xloop_walk (fX4_remove_B2 x0) (fX4_remove_P2 X x0 n sl) (fX4_remove_E2 X x0 n sl) (fun s' o' => fX4_remove_B2_w C hN s' o') 5000 (h, x1) e19 q20 ?_
  show XW X 54 [some (.ref x0), none, none] [] e19 n sl
  refine xw_aload_n (pc := 54) (i := 0) (x := x0) C dX4_remove_54 rfl rfl ?_
  refine xw_dup (pc := 55) C dX4_remove_55 rfl ?_
  obtain ⟨v21, q22, hm⟩ := xbind hm
  refine xw_getI (pc := 56) C dX4_remove_56 fl_X4_26 q22 ?_
  refine xw_iconst (pc := 59) (v := 1) C dX4_remove_59 xk_i_1 ?_
  refine xw_isub (pc := 60) C dX4_remove_60 ?_
  obtain ⟨h23, q24, hm⟩ := xbind hm
  refine xw_put (pc := 61) C dX4_remove_61 fl_X4_26 q24 (fun _ => rfl) (fun _ => rfl) ?_
  obtain rfl := Option.some.inj hm
  exact xw_return (pc := 64) C dX4_remove_64 rfl hX
def fX6_isSameTurnedBy_P2 (X : XCtx) (h : XH) (x0 : Nat) (x1 : Int32) (n sl : Nat) (s : Int32) : Prop := XW X 2 [some (.ref x0), some (.int x1), some (.int s)] [] h n sl
def fX6_isSameTurnedBy_E2 (X : XCtx) (h : XH) (x0 : Nat) (x1 : Int32) (n sl : Nat) (e : (Unit ⊕ Unit)) : Prop := match e with
  | .inl e => XW X 33 [none, none, none] [] h n sl
  | .inr e => XW X 41 [none, none, none] [] h n sl
set_option maxHeartbeats 4000000 in
set_option maxRecDepth 100000 in
theorem fX6_isSameTurnedBy_B2_w {X : XCtx} (C : XOK X RX6 cX6_isSameTurnedBy 3 "isSameTurnedBy" (some .boolean) 1 21) {n sl : Nat} (hN : XN X n sl) {h : XH} {x0 : Nat} {x1 : Int32} (s : Int32) (o : Int32 ⊕ (Unit ⊕ Unit)) (hm : fX6_isSameTurnedBy_B2 h x0 x1 s = some o) (hc : ∀ s', o = .inl s' → fX6_isSameTurnedBy_P2 X h x0 x1 n sl s') (he : ∀ e', o = .inr e' → fX6_isSameTurnedBy_E2 X h x0 x1 n sl e') : fX6_isSameTurnedBy_P2 X h x0 x1 n sl s := by
  revert s; intro x2 hm
  show XW X 2 [some (.ref x0), some (.int x1), some (.int x2)] [] h n sl
  replace hm : fX6_isSameTurnedBy_b2 h x0 x1 x2 = some o := hm
  unfold fX6_isSameTurnedBy_b2 at hm
  refine xw_iload_n (pc := 2) (i := 2) (x := x2) C dX6_isSameTurnedBy_2 rfl rfl ?_
  refine xw_iload_n (pc := 3) (i := 1) (x := x1) C dX6_isSameTurnedBy_3 rfl rfl ?_
  refine xw_iadd (pc := 4) C dX6_isSameTurnedBy_4 ?_
  refine xw_aload_n (pc := 5) (i := 0) (x := x0) C dX6_isSameTurnedBy_5 rfl rfl ?_
  obtain ⟨v1, q2, hm⟩ := xbind hm
  refine xw_getI (pc := 6) C dX6_isSameTurnedBy_6 fl_X6_21 q2 ?_
  refine xw_icmp_ge (pc := 9) (tgt := 41) C dX6_isSameTurnedBy_9 (by decide) (fun q => ?_) (fun q => ?_)
  · replace hm := xif_t q hm
    obtain rfl := Option.some.inj hm
    refine xw_sub (pc := 41) _ ?_ (he _ rfl)
    exact ⟨Or.inl rfl, Or.inl rfl, Or.inl rfl, trivial⟩
  · replace hm := xif_f q hm
    refine xw_aload_n (pc := 12) (i := 0) (x := x0) C dX6_isSameTurnedBy_12 rfl rfl ?_
    obtain ⟨v3, q4, hm⟩ := xbind hm
    refine xw_getR (pc := 13) C dX6_isSameTurnedBy_13 fl_X6_9 q4 ?_
    refine xw_iload_n (pc := 16) (i := 2) (x := x2) C dX6_isSameTurnedBy_16 rfl rfl ?_
    obtain ⟨v5, q6, hm⟩ := xbind hm
    refine xw_callSN1 (pc := 17) (As := [.ref v3, .int x2]) (st := []) C dX6_isSameTurnedBy_17 (wX8_at q6) dd_X8_at lk_X6_42 ds_X8_at rfl (Nat.le_of_ble_eq_true rfl) (Nat.le_of_ble_eq_true rfl) (Nat.le_of_ble_eq_true rfl) ⟨Nat.le_refl _, Nat.le_refl _⟩ hN ?_
    refine xw_aload_n (pc := 20) (i := 0) (x := x0) C dX6_isSameTurnedBy_20 rfl rfl ?_
    obtain ⟨v7, q8, hm⟩ := xbind hm
    refine xw_getR (pc := 21) C dX6_isSameTurnedBy_21 fl_X6_9 q8 ?_
    refine xw_iload_n (pc := 24) (i := 2) (x := x2) C dX6_isSameTurnedBy_24 rfl rfl ?_
    refine xw_iload_n (pc := 25) (i := 1) (x := x1) C dX6_isSameTurnedBy_25 rfl rfl ?_
    refine xw_iadd (pc := 26) C dX6_isSameTurnedBy_26 ?_
    obtain ⟨v9, q10, hm⟩ := xbind hm
    refine xw_callSN1 (pc := 27) (As := [.ref v7, .int (x2 + x1)]) (st := [.int v5]) C dX6_isSameTurnedBy_27 (wX8_at q10) dd_X8_at lk_X6_42 ds_X8_at rfl (Nat.le_of_ble_eq_true rfl) (Nat.le_of_ble_eq_true rfl) (Nat.le_of_ble_eq_true rfl) ⟨Nat.le_refl _, Nat.le_refl _⟩ hN ?_
    refine xw_icmp_eq (pc := 30) (tgt := 35) C dX6_isSameTurnedBy_30 (by decide) (fun q => ?_) (fun q => ?_)
    · replace hm := xif_t q hm
      refine xw_iinc (pc := 35) (i := 2) (x := x2) (v := (x2 + (1 : Int32))) (L' := [some (.ref x0), some (.int x1), some (.int (x2 + (1 : Int32)))]) C dX6_isSameTurnedBy_35 rfl (congrArg (HAdd.hAdd _) xk_i_1) (Nat.le_of_ble_eq_true rfl) rfl ?_
      refine xw_goto (pc := 38) (tgt := 2) C dX6_isSameTurnedBy_38 (by decide) ?_
      obtain rfl := Option.some.inj hm
      refine xw_sub (pc := 2) _ ?_ (hc _ rfl)
      exact ⟨Or.inr rfl, Or.inr rfl, Or.inr rfl, trivial⟩
    · replace hm := xif_f q hm
      obtain rfl := Option.some.inj hm
      refine xw_sub (pc := 33) _ ?_ (he _ rfl)
      exact ⟨Or.inl rfl, Or.inl rfl, Or.inl rfl, trivial⟩
set_option maxHeartbeats 4000000 in
set_option maxRecDepth 100000 in
theorem wX6_isSameTurnedBy {l : Launch} {n sl : Nat} {h : XH} {x0 : Nat} {x1 : Int32} {o : Bool} (hm : fX6_isSameTurnedBy h x0 x1 = some o) : XM l yX6_isSameTurnedBy cX6_isSameTurnedBy 3 (some .boolean) 1 21 [.ref x0, .int x1] h n sl (some (.int (xbi o))) h n sl := by
  refine xm_of pnX6 [some (.ref x0), some (.int x1), none] 1 rfl (Nat.le_of_ble_eq_true rfl) ?_
  intro X hT C
  replace C : XOK X RX6 cX6_isSameTurnedBy 3 "isSameTurnedBy" (some .boolean) 1 21 := C
  obtain ⟨-, hN, hX⟩ := hT
  unfold fX6_isSameTurnedBy at hm
  refine xw_iconst (pc := 0) (v := 0) C dX6_isSameTurnedBy_0 xk_i_0 ?_
  refine xw_istore_n (pc := 1) (i := 2) (x := (0 : Int32)) (L' := [some (.ref x0), some (.int x1), some (.int (0 : Int32))]) C dX6_isSameTurnedBy_1 rfl (Nat.le_of_ble_eq_true rfl) rfl ?_
  obtain ⟨e11, q12, hm⟩ := xbind hm
  refine xw_sub (pc := 2) [some (.ref x0), some (.int x1), some (.int (0 : Int32))] ⟨Or.inr rfl, Or.inr rfl, Or.inr rfl, trivial⟩ ?_
  refine xloop_walk (fX6_isSameTurnedBy_B2 h x0 x1) (fX6_isSameTurnedBy_P2 X h x0 x1 n sl) (fX6_isSameTurnedBy_E2 X h x0 x1 n sl) (fun s' o' => fX6_isSameTurnedBy_B2_w C hN s' o') 5000 (0 : Int32) e11 q12 ?_
  rcases e11 with e11 | e11
  · dsimp only at hm
    show XW X 33 [none, none, none] [] h n sl
    refine xw_iconst (pc := 33) (v := 0) C dX6_isSameTurnedBy_33 xk_i_0 ?_
    obtain rfl := Option.some.inj hm
    exact xw_zreturn (pc := 34) (v := xbi false) C dX6_isSameTurnedBy_34 rfl (xbi_nar _) hX
  · dsimp only at hm
    show XW X 41 [none, none, none] [] h n sl
    refine xw_iconst (pc := 41) (v := 1) C dX6_isSameTurnedBy_41 xk_i_1 ?_
    obtain rfl := Option.some.inj hm
    exact xw_zreturn (pc := 42) (v := xbi true) C dX6_isSameTurnedBy_42 rfl (xbi_nar _) hX
