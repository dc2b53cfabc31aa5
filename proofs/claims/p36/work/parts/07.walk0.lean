set_option maxHeartbeats 4000000 in
set_option maxRecDepth 100000 in
theorem wJ13_bitCount_95d88 {l : Launch} {n sl : Nat} {h : XH} {x0 : Int64} {o : Int32} (hm : fJ13_bitCount_95d88 x0 = some o) : XM l yJ13_bitCount_95d88 cJ13_bitCount_95d88 2 (some .int) 0 0 [.long x0] h n sl (some (.int o)) h n sl := by
  refine xm_of pnJ13 [some (.long x0), none] 0 rfl (Nat.le_of_ble_eq_true rfl) ?_
  intro X hT C
  replace C : XOK X RJ13 cJ13_bitCount_95d88 2 "bitCount" (some .int) 0 0 := C
  obtain ⟨-, hN, hX⟩ := hT
  unfold fJ13_bitCount_95d88 at hm
  refine xw_lload_n (pc := 0) (i := 0) (x := x0) C dJ13_bitCount_95d88_0 rfl rfl ?_
  refine xw_lload_n (pc := 1) (i := 0) (x := x0) C dJ13_bitCount_95d88_1 rfl rfl ?_
  refine xw_iconst (pc := 2) (v := 1) C dJ13_bitCount_95d88_2 xk_i_1 ?_
  refine xw_lushr (pc := 3) C dJ13_bitCount_95d88_3 ?_
  refine xw_ldc2 (pc := 4) (v := 6148914691236517205) C dJ13_bitCount_95d88_4 cn_J13_314 ?_
  refine xw_land (pc := 7) C dJ13_bitCount_95d88_7 ?_
  refine xw_lsub (pc := 8) C dJ13_bitCount_95d88_8 ?_
  obtain ⟨y1, ey1, hm⟩ := xlet_ex hm
  refine xw_topJ ey1 ?_
  refine xw_lstore_n (pc := 9) (i := 0) (x := y1) (L' := [some (.long y1), none]) C dJ13_bitCount_95d88_9 rfl (Nat.le_of_ble_eq_true rfl) rfl ?_
  refine xw_lload_n (pc := 10) (i := 0) (x := y1) C dJ13_bitCount_95d88_10 rfl rfl ?_
  refine xw_ldc2 (pc := 11) (v := 3689348814741910323) C dJ13_bitCount_95d88_11 cn_J13_316 ?_
  refine xw_land (pc := 14) C dJ13_bitCount_95d88_14 ?_
  refine xw_lload_n (pc := 15) (i := 0) (x := y1) C dJ13_bitCount_95d88_15 rfl rfl ?_
  refine xw_iconst (pc := 16) (v := 2) C dJ13_bitCount_95d88_16 xk_i_2 ?_
  refine xw_lushr (pc := 17) C dJ13_bitCount_95d88_17 ?_
  refine xw_ldc2 (pc := 18) (v := 3689348814741910323) C dJ13_bitCount_95d88_18 cn_J13_316 ?_
  refine xw_land (pc := 21) C dJ13_bitCount_95d88_21 ?_
  refine xw_ladd (pc := 22) C dJ13_bitCount_95d88_22 ?_
  obtain ⟨y2, ey2, hm⟩ := xlet_ex hm
  refine xw_topJ ey2 ?_
  refine xw_lstore_n (pc := 23) (i := 0) (x := y2) (L' := [some (.long y2), none]) C dJ13_bitCount_95d88_23 rfl (Nat.le_of_ble_eq_true rfl) rfl ?_
  refine xw_lload_n (pc := 24) (i := 0) (x := y2) C dJ13_bitCount_95d88_24 rfl rfl ?_
  refine xw_lload_n (pc := 25) (i := 0) (x := y2) C dJ13_bitCount_95d88_25 rfl rfl ?_
  refine xw_iconst (pc := 26) (v := 4) C dJ13_bitCount_95d88_26 xk_i_4 ?_
  refine xw_lushr (pc := 27) C dJ13_bitCount_95d88_27 ?_
  refine xw_ladd (pc := 28) C dJ13_bitCount_95d88_28 ?_
  refine xw_ldc2 (pc := 29) (v := 1085102592571150095) C dJ13_bitCount_95d88_29 cn_J13_318 ?_
  refine xw_land (pc := 32) C dJ13_bitCount_95d88_32 ?_
  obtain ⟨y3, ey3, hm⟩ := xlet_ex hm
  refine xw_topJ ey3 ?_
  refine xw_lstore_n (pc := 33) (i := 0) (x := y3) (L' := [some (.long y3), none]) C dJ13_bitCount_95d88_33 rfl (Nat.le_of_ble_eq_true rfl) rfl ?_
  refine xw_lload_n (pc := 34) (i := 0) (x := y3) C dJ13_bitCount_95d88_34 rfl rfl ?_
  refine xw_lload_n (pc := 35) (i := 0) (x := y3) C dJ13_bitCount_95d88_35 rfl rfl ?_
  refine xw_bipush (pc := 36) (v := 8) C dJ13_bitCount_95d88_36 xk_b_8 ?_
  refine xw_lushr (pc := 38) C dJ13_bitCount_95d88_38 ?_
  refine xw_ladd (pc := 39) C dJ13_bitCount_95d88_39 ?_
  obtain ⟨y4, ey4, hm⟩ := xlet_ex hm
  refine xw_topJ ey4 ?_
  refine xw_lstore_n (pc := 40) (i := 0) (x := y4) (L' := [some (.long y4), none]) C dJ13_bitCount_95d88_40 rfl (Nat.le_of_ble_eq_true rfl) rfl ?_
  refine xw_lload_n (pc := 41) (i := 0) (x := y4) C dJ13_bitCount_95d88_41 rfl rfl ?_
  refine xw_lload_n (pc := 42) (i := 0) (x := y4) C dJ13_bitCount_95d88_42 rfl rfl ?_
  refine xw_bipush (pc := 43) (v := 16) C dJ13_bitCount_95d88_43 xk_b_16 ?_
  refine xw_lushr (pc := 45) C dJ13_bitCount_95d88_45 ?_
  refine xw_ladd (pc := 46) C dJ13_bitCount_95d88_46 ?_
  obtain ⟨y5, ey5, hm⟩ := xlet_ex hm
  refine xw_topJ ey5 ?_
  refine xw_lstore_n (pc := 47) (i := 0) (x := y5) (L' := [some (.long y5), none]) C dJ13_bitCount_95d88_47 rfl (Nat.le_of_ble_eq_true rfl) rfl ?_
  refine xw_lload_n (pc := 48) (i := 0) (x := y5) C dJ13_bitCount_95d88_48 rfl rfl ?_
  refine xw_lload_n (pc := 49) (i := 0) (x := y5) C dJ13_bitCount_95d88_49 rfl rfl ?_
  refine xw_bipush (pc := 50) (v := 32) C dJ13_bitCount_95d88_50 xk_b_32 ?_
  refine xw_lushr (pc := 52) C dJ13_bitCount_95d88_52 ?_
  refine xw_ladd (pc := 53) C dJ13_bitCount_95d88_53 ?_
  obtain ⟨y6, ey6, hm⟩ := xlet_ex hm
  refine xw_topJ ey6 ?_
  refine xw_lstore_n (pc := 54) (i := 0) (x := y6) (L' := [some (.long y6), none]) C dJ13_bitCount_95d88_54 rfl (Nat.le_of_ble_eq_true rfl) rfl ?_
  refine xw_lload_n (pc := 55) (i := 0) (x := y6) C dJ13_bitCount_95d88_55 rfl rfl ?_
  refine xw_l2i (pc := 56) C dJ13_bitCount_95d88_56 ?_
  refine xw_bipush (pc := 57) (v := 127) C dJ13_bitCount_95d88_57 xk_b_127 ?_
  refine xw_iand (pc := 59) C dJ13_bitCount_95d88_59 ?_
  obtain rfl := Option.some.inj hm
  exact xw_ireturn (pc := 60) C dJ13_bitCount_95d88_60 rfl hX
set_option maxHeartbeats 4000000 in
set_option maxRecDepth 100000 in
theorem wX8_hasBit {l : Launch} {n sl : Nat} {h : XH} {x0 : Int64} {x2 : Int32} {o : Bool} (hm : fX8_hasBit x0 x2 = some o) : XM l yX8_hasBit cX8_hasBit 3 (some .boolean) 0 0 [.long x0, .int x2] h n sl (some (.int (xbi o))) h n sl := by
  refine xm_of pnX8 [some (.long x0), none, some (.int x2)] 0 rfl (Nat.le_of_ble_eq_true rfl) ?_
  intro X hT C
  replace C : XOK X RX8 cX8_hasBit 3 "hasBit" (some .boolean) 0 0 := C
  obtain ⟨-, hN, hX⟩ := hT
  unfold fX8_hasBit at hm
  refine xw_lload_n (pc := 0) (i := 0) (x := x0) C dX8_hasBit_0 rfl rfl ?_
  refine xw_iload_n (pc := 1) (i := 2) (x := x2) C dX8_hasBit_1 rfl rfl ?_
  refine xw_lushr (pc := 2) C dX8_hasBit_2 ?_
  refine xw_lconst (pc := 3) (v := 1) C dX8_hasBit_3 xk_l_1 ?_
  refine xw_land (pc := 4) C dX8_hasBit_4 ?_
  refine xw_lconst (pc := 5) (v := 1) C dX8_hasBit_5 xk_l_1 ?_
  refine xw_lcmp (pc := 6) C dX8_hasBit_6 ?_
  refine xw_if_ne (pc := 7) (tgt := 14) C dX8_hasBit_7 (by decide) (fun q => ?_) (fun q => ?_)
  · replace hm := xif_f q hm
    refine xw_iconst (pc := 14) (v := 0) C dX8_hasBit_14 xk_i_0 ?_
    obtain rfl := Option.some.inj hm
    exact xw_zreturn (pc := 15) (v := xbi false) C dX8_hasBit_15 rfl (xbi_nar _) hX
  · replace hm := xif_t q hm
    refine xw_iconst (pc := 10) (v := 1) C dX8_hasBit_10 xk_i_1 ?_
    refine xw_goto (pc := 11) (tgt := 15) C dX8_hasBit_11 (by decide) ?_
    obtain rfl := Option.some.inj hm
    exact xw_zreturn (pc := 15) (v := xbi true) C dX8_hasBit_15 rfl (xbi_nar _) hX
set_option maxHeartbeats 4000000 in
set_option maxRecDepth 100000 in
theorem wX8_mod {l : Launch} {n sl : Nat} {h : XH} {x0 : Int32} {x1 : Int32} {o : Int32} (hm : fX8_mod x0 x1 = some o) : XM l yX8_mod cX8_mod 3 (some .int) 0 0 [.int x0, .int x1] h n sl (some (.int o)) h n sl := by
  refine xm_of pnX8 [some (.int x0), some (.int x1), none] 1 rfl (Nat.le_of_ble_eq_true rfl) ?_
  intro X hT C
  replace C : XOK X RX8 cX8_mod 3 "mod" (some .int) 0 0 := C
  obtain ⟨-, hN, hX⟩ := hT
  unfold fX8_mod at hm
  refine xw_iload_n (pc := 0) (i := 1) (x := x1) C dX8_mod_0 rfl rfl ?_
  refine xw_if_gt (pc := 1) (tgt := 6) C dX8_mod_1 (by decide) (fun q => ?_) (fun q => ?_)
  · replace hm := xif_t q hm
    refine xw_iload_n (pc := 6) (i := 0) (x := x0) C dX8_mod_6 rfl rfl ?_
    refine xw_iload_n (pc := 7) (i := 1) (x := x1) C dX8_mod_7 rfl rfl ?_
    obtain ⟨q1, hm⟩ := xif_n hm
    refine xw_irem (pc := 8) C dX8_mod_8 q1 ?_
    refine xw_istore_n (pc := 9) (i := 2) (x := (xrem x0 x1)) (L' := [some (.int x0), some (.int x1), some (.int (xrem x0 x1))]) C dX8_mod_9 rfl (Nat.le_of_ble_eq_true rfl) rfl ?_
    refine xw_iload_n (pc := 10) (i := 2) (x := (xrem x0 x1)) C dX8_mod_10 rfl rfl ?_
    refine xw_if_ge (pc := 11) (tgt := 20) C dX8_mod_11 (by decide) (fun q => ?_) (fun q => ?_)
    · replace hm := xif_t q hm
      refine xw_iload_n (pc := 20) (i := 2) (x := (xrem x0 x1)) C dX8_mod_20 rfl rfl ?_
      obtain rfl := Option.some.inj hm
      exact xw_ireturn (pc := 21) C dX8_mod_21 rfl hX
    · replace hm := xif_f q hm
      refine xw_iload_n (pc := 14) (i := 2) (x := (xrem x0 x1)) C dX8_mod_14 rfl rfl ?_
      refine xw_iload_n (pc := 15) (i := 1) (x := x1) C dX8_mod_15 rfl rfl ?_
      refine xw_iadd (pc := 16) C dX8_mod_16 ?_
      refine xw_goto (pc := 17) (tgt := 21) C dX8_mod_17 (by decide) ?_
      obtain rfl := Option.some.inj hm
      exact xw_ireturn (pc := 21) C dX8_mod_21 rfl hX
  · replace hm := xif_f q hm
    refine xw_iconst (pc := 4) (v := 0) C dX8_mod_4 xk_i_0 ?_
    obtain rfl := Option.some.inj hm
    exact xw_ireturn (pc := 5) C dX8_mod_5 rfl hX
set_option maxHeartbeats 4000000 in
set_option maxRecDepth 100000 in
theorem wX1_isOpenAt {l : Launch} {n sl : Nat} {h : XH} {x0 : Nat} {x1 : Int32} {o : Bool} (hm : fX1_isOpenAt h x0 x1 = some o) : XM l yX1_isOpenAt cX1_isOpenAt 2 (some .boolean) 1 22 [.ref x0, .int x1] h n sl (some (.int (xbi o))) h n sl := by
  refine xm_of pnX1 [some (.ref x0), some (.int x1)] 0 rfl (Nat.le_of_ble_eq_true rfl) ?_
  intro X hT C
  replace C : XOK X RX1 cX1_isOpenAt 2 "isOpenAt" (some .boolean) 1 22 := C
  obtain ⟨-, hN, hX⟩ := hT
  unfold fX1_isOpenAt at hm
  refine xw_aload_n (pc := 0) (i := 0) (x := x0) C dX1_isOpenAt_0 rfl rfl ?_
  obtain ⟨v1, q2, hm⟩ := xbind hm
  refine xw_getI (pc := 1) C dX1_isOpenAt_1 fl_X1_15 q2 ?_
  refine xw_i2l (pc := 4) C dX1_isOpenAt_4 ?_
  refine xw_aload_n (pc := 5) (i := 0) (x := x0) C dX1_isOpenAt_5 rfl rfl ?_
  obtain ⟨v3, q4, hm⟩ := xbind hm
  refine xw_getI (pc := 6) C dX1_isOpenAt_6 fl_X1_18 q4 ?_
  refine xw_aload_n (pc := 9) (i := 0) (x := x0) C dX1_isOpenAt_9 rfl rfl ?_
  obtain ⟨v5, q6, hm⟩ := xbind hm
  refine xw_getI (pc := 10) C dX1_isOpenAt_10 fl_X1_21 q6 ?_
  refine xw_iload_n (pc := 13) (i := 1) (x := x1) C dX1_isOpenAt_13 rfl rfl ?_
  refine xw_imul (pc := 14) C dX1_isOpenAt_14 ?_
  refine xw_iadd (pc := 15) C dX1_isOpenAt_15 ?_
  refine xw_ineg (pc := 16) C dX1_isOpenAt_16 ?_
  refine xw_aload_n (pc := 17) (i := 0) (x := x0) C dX1_isOpenAt_17 rfl rfl ?_
  obtain ⟨v7, q8, hm⟩ := xbind hm
  refine xw_getI (pc := 18) C dX1_isOpenAt_18 fl_X1_9 q8 ?_
  obtain ⟨v9, q10, hm⟩ := xbind hm
  refine xw_callSN1 (pc := 21) (As := [.int (-(v3 + (v5 * x1))), .int v7]) (st := [.long (v1.toInt64)]) C dX1_isOpenAt_21 (wX8_mod q10) dd_X8_mod lk_X1_24 ds_X8_mod rfl (Nat.le_of_ble_eq_true rfl) (Nat.le_of_ble_eq_true rfl) (Nat.le_of_ble_eq_true rfl) ⟨Nat.le_refl _, Nat.le_refl _⟩ hN ?_
  obtain ⟨v11, q12, hm⟩ := xbind hm
  refine xw_callSN1 (pc := 24) (As := [.long (v1.toInt64), .int v9]) (st := []) C dX1_isOpenAt_24 (wX8_hasBit q12) dd_X8_hasBit lk_X1_28 ds_X8_hasBit rfl (Nat.le_of_ble_eq_true rfl) (Nat.le_of_ble_eq_true rfl) (Nat.le_of_ble_eq_true rfl) ⟨Nat.le_refl _, Nat.le_refl _⟩ hN ?_
  obtain rfl := Option.some.inj hm
  exact xw_zreturn (pc := 27) (v := xbi v11) C dX1_isOpenAt_27 rfl (xbi_nar _) hX
set_option maxHeartbeats 4000000 in
set_option maxRecDepth 100000 in
theorem wX1_opensAt {l : Launch} {n sl : Nat} {h : XH} {x0 : Nat} {x1 : Int32} {o : Bool} (hm : fX1_opensAt h x0 x1 = some o) : XM l yX1_opensAt cX1_opensAt 2 (some .boolean) 2 43 [.ref x0, .int x1] h n sl (some (.int (xbi o))) h n sl := by
  refine xm_of pnX1 [some (.ref x0), some (.int x1)] 0 rfl (Nat.le_of_ble_eq_true rfl) ?_
  intro X hT C
  replace C : XOK X RX1 cX1_opensAt 2 "opensAt" (some .boolean) 2 43 := C
  obtain ⟨-, hN, hX⟩ := hT
  unfold fX1_opensAt at hm
  refine xw_aload_n (pc := 0) (i := 0) (x := x0) C dX1_opensAt_0 rfl rfl ?_
  refine xw_iload_n (pc := 1) (i := 1) (x := x1) C dX1_opensAt_1 rfl rfl ?_
  obtain ⟨_, q1, hm⟩ := xbind hm
  obtain ⟨v2, q3, hm⟩ := xbind hm
  refine xw_callV1 (pc := 2) (As := [.int x1]) (st := []) C dX1_opensAt_2 (wX1_isOpenAt q3) dd_X1_isOpenAt lk_X1_32 dv_X1_isOpenAt (xco_spec q1) rfl (Nat.le_of_ble_eq_true rfl) (Nat.le_of_ble_eq_true rfl) (Nat.le_of_ble_eq_true rfl) ⟨Nat.le_refl _, Nat.le_refl _⟩ hN ?_
  refine xw_if_eqZ (pc := 5) (b := v2) (tgt := 26) C dX1_opensAt_5 (by decide) (fun q => ?_) (fun q => ?_)
  · replace hm := xif_f q hm
    refine xw_iconst (pc := 26) (v := 0) C dX1_opensAt_26 xk_i_0 ?_
    obtain rfl := Option.some.inj hm
    exact xw_zreturn (pc := 27) (v := xbi false) C dX1_opensAt_27 rfl (xbi_nar _) hX
  · replace hm := xif_t q hm
    refine xw_iload_n (pc := 8) (i := 1) (x := x1) C dX1_opensAt_8 rfl rfl ?_
    refine xw_if_eq (pc := 9) (tgt := 22) C dX1_opensAt_9 (by decide) (fun q => ?_) (fun q => ?_)
    · replace hm := xif_t q hm
      refine xw_iconst (pc := 22) (v := 1) C dX1_opensAt_22 xk_i_1 ?_
      refine xw_goto (pc := 23) (tgt := 27) C dX1_opensAt_23 (by decide) ?_
      obtain rfl := Option.some.inj hm
      exact xw_zreturn (pc := 27) (v := xbi true) C dX1_opensAt_27 rfl (xbi_nar _) hX
    · replace hm := xif_f q hm
      refine xw_aload_n (pc := 12) (i := 0) (x := x0) C dX1_opensAt_12 rfl rfl ?_
      refine xw_iload_n (pc := 13) (i := 1) (x := x1) C dX1_opensAt_13 rfl rfl ?_
      refine xw_iconst (pc := 14) (v := 1) C dX1_opensAt_14 xk_i_1 ?_
      refine xw_isub (pc := 15) C dX1_opensAt_15 ?_
      obtain ⟨_, q4, hm⟩ := xbind hm
      obtain ⟨v5, q6, hm⟩ := xbind hm
      refine xw_callV1 (pc := 16) (As := [.int (x1 - (1 : Int32))]) (st := []) C dX1_opensAt_16 (wX1_isOpenAt q6) dd_X1_isOpenAt lk_X1_32 dv_X1_isOpenAt (xco_spec q4) rfl (Nat.le_of_ble_eq_true rfl) (Nat.le_of_ble_eq_true rfl) (Nat.le_of_ble_eq_true rfl) ⟨Nat.le_refl _, Nat.le_refl _⟩ hN ?_
      refine xw_if_neZ (pc := 19) (b := v5) (tgt := 26) C dX1_opensAt_19 (by decide) (fun q => ?_) (fun q => ?_)
      · replace hm := xif_t q hm
        refine xw_iconst (pc := 26) (v := 0) C dX1_opensAt_26 xk_i_0 ?_
        obtain rfl := Option.some.inj hm
        exact xw_zreturn (pc := 27) (v := xbi false) C dX1_opensAt_27 rfl (xbi_nar _) hX
      · replace hm := xif_f q hm
        refine xw_iconst (pc := 22) (v := 1) C dX1_opensAt_22 xk_i_1 ?_
        refine xw_goto (pc := 23) (tgt := 27) C dX1_opensAt_23 (by decide) ?_
        obtain rfl := Option.some.inj hm
        exact xw_zreturn (pc := 27) (v := xbi true) C dX1_opensAt_27 rfl (xbi_nar _) hX
def fX1_openings_P4 (X : XCtx) (h : XH) (x0 : Nat) (n sl : Nat) (s : (Int32 × Int32)) : Prop := XW X 4 [some (.ref x0), some (.int s.1), some (.int s.2)] [] h n sl
def fX1_openings_E4 (X : XCtx) (h : XH) (x0 : Nat) (n sl : Nat) (e : Int32) : Prop := XW X 28 [none, some (.int e), none] [] h n sl
set_option maxHeartbeats 4000000 in
set_option maxRecDepth 100000 in
theorem fX1_openings_B4_w {X : XCtx} (C : XOK X RX1 cX1_openings 3 "openings" (some .int) 3 64) {n sl : Nat} (hN : XN X n sl) {h : XH} {x0 : Nat} (s : (Int32 × Int32)) (o : (Int32 × Int32) ⊕ Int32) (hm : fX1_openings_B4 h x0 s = some o) (hc : ∀ s', o = .inl s' → fX1_openings_P4 X h x0 n sl s') (he : ∀ e', o = .inr e' → fX1_openings_E4 X h x0 n sl e') : fX1_openings_P4 X h x0 n sl s := by
  obtain ⟨x1, x2⟩ := s
  show XW X 4 [some (.ref x0), some (.int x1), some (.int x2)] [] h n sl
  replace hm : fX1_openings_b4 h x0 x1 x2 = some o := hm
  unfold fX1_openings_b4 at hm
  refine xw_iload_n (pc := 4) (i := 2) (x := x2) C dX1_openings_4 rfl rfl ?_
  refine xw_sipush (pc := 5) (v := 1000) C dX1_openings_5 xk_s_1000 ?_
  refine xw_icmp_gt (pc := 8) (tgt := 28) C dX1_openings_8 (by decide) (fun q => ?_) (fun q => ?_)
  · replace hm := xif_t q hm
    obtain rfl := Option.some.inj hm
    refine xw_sub (pc := 28) _ ?_ (he _ rfl)
    exact ⟨Or.inl rfl, Or.inr rfl, Or.inl rfl, trivial⟩
  · replace hm := xif_f q hm
    refine xw_aload_n (pc := 11) (i := 0) (x := x0) C dX1_openings_11 rfl rfl ?_
    refine xw_iload_n (pc := 12) (i := 2) (x := x2) C dX1_openings_12 rfl rfl ?_
    obtain ⟨_, q1, hm⟩ := xbind hm
    obtain ⟨v2, q3, hm⟩ := xbind hm
    refine xw_callV1 (pc := 13) (As := [.int x2]) (st := []) C dX1_openings_13 (wX1_opensAt q3) dd_X1_opensAt lk_X1_36 dv_X1_opensAt (xco_spec q1) rfl (Nat.le_of_ble_eq_true rfl) (Nat.le_of_ble_eq_true rfl) (Nat.le_of_ble_eq_true rfl) ⟨Nat.le_refl _, Nat.le_refl _⟩ hN ?_
    refine xw_if_eqZ (pc := 16) (b := v2) (tgt := 22) C dX1_openings_16 (by decide) (fun q => ?_) (fun q => ?_)
    · replace hm := xif_f q hm
      refine xw_iinc (pc := 22) (i := 2) (x := x2) (v := (x2 + (1 : Int32))) (L' := [some (.ref x0), some (.int x1), some (.int (x2 + (1 : Int32)))]) C dX1_openings_22 rfl (congrArg (HAdd.hAdd _) xk_i_1) (Nat.le_of_ble_eq_true rfl) rfl ?_
      refine xw_goto (pc := 25) (tgt := 4) C dX1_openings_25 (by decide) ?_
      obtain rfl := Option.some.inj hm
      refine xw_sub (pc := 4) _ ?_ (hc _ rfl)
      exact ⟨Or.inr rfl, Or.inr rfl, Or.inr rfl, trivial⟩
    · replace hm := xif_t q hm
      refine xw_iinc (pc := 19) (i := 1) (x := x1) (v := (x1 + (1 : Int32))) (L' := [some (.ref x0), some (.int (x1 + (1 : Int32))), some (.int x2)]) C dX1_openings_19 rfl (congrArg (HAdd.hAdd _) xk_i_1) (Nat.le_of_ble_eq_true rfl) rfl ?_
      refine xw_iinc (pc := 22) (i := 2) (x := x2) (v := (x2 + (1 : Int32))) (L' := [some (.ref x0), some (.int (x1 + (1 : Int32))), some (.int (x2 + (1 : Int32)))]) C dX1_openings_22 rfl (congrArg (HAdd.hAdd _) xk_i_1) (Nat.le_of_ble_eq_true rfl) rfl ?_
      refine xw_goto (pc := 25) (tgt := 4) C dX1_openings_25 (by decide) ?_
      obtain rfl := Option.some.inj hm
      refine xw_sub (pc := 4) _ ?_ (hc _ rfl)
      exact ⟨Or.inr rfl, Or.inr rfl, Or.inr rfl, trivial⟩
set_option maxHeartbeats 4000000 in
set_option maxRecDepth 100000 in
theorem wX1_openings {l : Launch} {n sl : Nat} {h : XH} {x0 : Nat} {o : Int32} (hm : fX1_openings h x0 = some o) : XM l yX1_openings cX1_openings 3 (some .int) 3 64 [.ref x0] h n sl (some (.int o)) h n sl := by
  refine xm_of pnX1 [some (.ref x0), none, none] 2 rfl (Nat.le_of_ble_eq_true rfl) ?_
  intro X hT C
  replace C : XOK X RX1 cX1_openings 3 "openings" (some .int) 3 64 := C
  obtain ⟨-, hN, hX⟩ := hT
  unfold fX1_openings at hm
  refine xw_iconst (pc := 0) (v := 0) C dX1_openings_0 xk_i_0 ?_
  refine xw_istore_n (pc := 1) (i := 1) (x := (0 : Int32)) (L' := [some (.ref x0), some (.int (0 : Int32)), none]) C dX1_openings_1 rfl (Nat.le_of_ble_eq_true rfl) rfl ?_
  refine xw_iconst (pc := 2) (v := 0) C dX1_openings_2 xk_i_0 ?_
  refine xw_istore_n (pc := 3) (i := 2) (x := (0 : Int32)) (L' := [some (.ref x0), some (.int (0 : Int32)), some (.int (0 : Int32))]) C dX1_openings_3 rfl (Nat.le_of_ble_eq_true rfl) rfl ?_
  obtain ⟨e4, q5, hm⟩ := xbind hm
  refine xw_sub (pc := 4) [some (.ref x0), some (.int (0 : Int32)), some (.int (0 : Int32))] ⟨Or.inr rfl, Or.inr rfl, Or.inr rfl, trivial⟩ ?_
  refine xloop_walk (fX1_openings_B4 h x0) (fX1_openings_P4 X h x0 n sl) (fX1_openings_E4 X h x0 n sl) (fun s' o' => fX1_openings_B4_w C hN s' o') 5000 ((0 : Int32), (0 : Int32)) e4 q5 ?_
  show XW X 28 [none, some (.int e4), none] [] h n sl
  refine xw_iload_n (pc := 28) (i := 1) (x := e4) C dX1_openings_28 rfl rfl ?_
  obtain rfl := Option.some.inj hm
  exact xw_ireturn (pc := 29) C dX1_openings_29 rfl hX
set_option maxHeartbeats 4000000 in
set_option maxRecDepth 100000 in
theorem wX2_number {l : Launch} {n sl : Nat} {h : XH} {x0 : Nat} {o : Int32} (hm : fX2_number h x0 = some o) : XM l yX2_number cX2_number 1 (some .int) 0 0 [.ref x0] h n sl (some (.int o)) h n sl := by
  refine xm_of pnX2 [some (.ref x0)] 0 rfl (Nat.le_of_ble_eq_true rfl) ?_
  intro X hT C
  replace C : XOK X RX2 cX2_number 1 "number" (some .int) 0 0 := C
  obtain ⟨-, hN, hX⟩ := hT
  unfold fX2_number at hm
  refine xw_aload_n (pc := 0) (i := 0) (x := x0) C dX2_number_0 rfl rfl ?_
  obtain ⟨v1, q2, hm⟩ := xbind hm
  refine xw_getI (pc := 1) C dX2_number_1 fl_X2_9 q2 ?_
  refine xw_if_le (pc := 4) (tgt := 25) C dX2_number_4 (by decide) (fun q => ?_) (fun q => ?_)
  · replace hm := xif_t q hm
    refine xw_iconst (pc := 25) (v := 0) C dX2_number_25 xk_i_0 ?_
    obtain rfl := Option.some.inj hm
    exact xw_ireturn (pc := 26) C dX2_number_26 rfl hX
  · replace hm := xif_f q hm
    refine xw_sipush (pc := 7) (v := 1000) C dX2_number_7 xk_s_1000 ?_
    refine xw_aload_n (pc := 10) (i := 0) (x := x0) C dX2_number_10 rfl rfl ?_
    obtain ⟨v3, q4, hm⟩ := xbind hm
    refine xw_getI (pc := 11) C dX2_number_11 fl_X2_15 q4 ?_
    refine xw_isub (pc := 14) C dX2_number_14 ?_
    refine xw_aload_n (pc := 15) (i := 0) (x := x0) C dX2_number_15 rfl rfl ?_
    obtain ⟨v5, q6, hm⟩ := xbind hm
    refine xw_getI (pc := 16) C dX2_number_16 fl_X2_9 q6 ?_
    obtain ⟨q7, hm⟩ := xif_n hm
    refine xw_idiv (pc := 19) C dX2_number_19 q7 ?_
    refine xw_iconst (pc := 20) (v := 1) C dX2_number_20 xk_i_1 ?_
    refine xw_iadd (pc := 21) C dX2_number_21 ?_
    refine xw_goto (pc := 22) (tgt := 26) C dX2_number_22 (by decide) ?_
    obtain rfl := Option.some.inj hm
    exact xw_ireturn (pc := 26) C dX2_number_26 rfl hX
set_option maxHeartbeats 4000000 in
set_option maxRecDepth 100000 in
theorem wX8_at {l : Launch} {n sl : Nat} {h : XH} {x0 : Nat} {x1 : Int32} {o : Int32} (hm : fX8_at h x0 x1 = some o) : XM l yX8_at cX8_at 2 (some .int) 0 0 [.ref x0, .int x1] h n sl (some (.int o)) h n sl := by
  refine xm_of pnX8 [some (.ref x0), some (.int x1)] 0 rfl (Nat.le_of_ble_eq_true rfl) ?_
  intro X hT C
  replace C : XOK X RX8 cX8_at 2 "at" (some .int) 0 0 := C
  obtain ⟨-, hN, hX⟩ := hT
  unfold fX8_at at hm
  refine xw_iload_n (pc := 0) (i := 1) (x := x1) C dX8_at_0 rfl rfl ?_
  refine xw_if_lt (pc := 1) (tgt := 16) C dX8_at_1 (by decide) (fun q => ?_) (fun q => ?_)
  · replace hm := xif_t q hm
    refine xw_iconst (pc := 16) (v := 0) C dX8_at_16 xk_i_0 ?_
    obtain rfl := Option.some.inj hm
    exact xw_ireturn (pc := 17) C dX8_at_17 rfl hX
  · replace hm := xif_f q hm
    refine xw_iload_n (pc := 4) (i := 1) (x := x1) C dX8_at_4 rfl rfl ?_
    refine xw_aload_n (pc := 5) (i := 0) (x := x0) C dX8_at_5 rfl rfl ?_
    obtain ⟨v1, q2, hm⟩ := xbind hm
    refine xw_alen (pc := 6) C dX8_at_6 q2 ?_
    refine xw_icmp_ge (pc := 7) (tgt := 16) C dX8_at_7 (by decide) (fun q => ?_) (fun q => ?_)
    · replace hm := xif_t q hm
      refine xw_iconst (pc := 16) (v := 0) C dX8_at_16 xk_i_0 ?_
      obtain rfl := Option.some.inj hm
      exact xw_ireturn (pc := 17) C dX8_at_17 rfl hX
    · replace hm := xif_f q hm
      refine xw_aload_n (pc := 10) (i := 0) (x := x0) C dX8_at_10 rfl rfl ?_
      refine xw_iload_n (pc := 11) (i := 1) (x := x1) C dX8_at_11 rfl rfl ?_
      obtain ⟨v3, q4, hm⟩ := xbind hm
      refine xw_iaload (pc := 12) C dX8_at_12 q4 ?_
      refine xw_goto (pc := 13) (tgt := 17) C dX8_at_13 (by decide) ?_
      obtain rfl := Option.some.inj hm
      exact xw_ireturn (pc := 17) C dX8_at_17 rfl hX
set_option maxHeartbeats 4000000 in
set_option maxRecDepth 100000 in
theorem wX6_markOf {l : Launch} {n sl : Nat} {h : XH} {x0 : Nat} {x1 : Int32} {o : Int32} (hm : fX6_markOf h x0 x1 = some o) : XM l yX6_markOf cX6_markOf 2 (some .int) 1 21 [.ref x0, .int x1] h n sl (some (.int o)) h n sl := by
  refine xm_of pnX6 [some (.ref x0), some (.int x1)] 0 rfl (Nat.le_of_ble_eq_true rfl) ?_
  intro X hT C
  replace C : XOK X RX6 cX6_markOf 2 "markOf" (some .int) 1 21 := C
  obtain ⟨-, hN, hX⟩ := hT
  unfold fX6_markOf at hm
  refine xw_aload_n (pc := 0) (i := 0) (x := x0) C dX6_markOf_0 rfl rfl ?_
  obtain ⟨v1, q2, hm⟩ := xbind hm
  refine xw_getR (pc := 1) C dX6_markOf_1 fl_X6_9 q2 ?_
  refine xw_iload_n (pc := 4) (i := 1) (x := x1) C dX6_markOf_4 rfl rfl ?_
  obtain ⟨v3, q4, hm⟩ := xbind hm
  refine xw_callSN1 (pc := 5) (As := [.ref v1, .int x1]) (st := []) C dX6_markOf_5 (wX8_at q4) dd_X8_at lk_X6_42 ds_X8_at rfl (Nat.le_of_ble_eq_true rfl) (Nat.le_of_ble_eq_true rfl) (Nat.le_of_ble_eq_true rfl) ⟨Nat.le_refl _, Nat.le_refl _⟩ hN ?_
  obtain rfl := Option.some.inj hm
  exact xw_ireturn (pc := 8) C dX6_markOf_8 rfl hX
def fX6_markedCells_P4 (X : XCtx) (h : XH) (x0 : Nat) (n sl : Nat) (s : (Int32 × Int32)) : Prop := XW X 4 [some (.ref x0), some (.int s.1), some (.int s.2)] [] h n sl
def fX6_markedCells_E4 (X : XCtx) (h : XH) (x0 : Nat) (n sl : Nat) (e : Int32) : Prop := XW X 29 [none, some (.int e), none] [] h n sl
set_option maxHeartbeats 4000000 in
set_option maxRecDepth 100000 in
theorem fX6_markedCells_B4_w {X : XCtx} (C : XOK X RX6 cX6_markedCells 3 "markedCells" (some .int) 2 42) {n sl : Nat} (hN : XN X n sl) {h : XH} {x0 : Nat} (s : (Int32 × Int32)) (o : (Int32 × Int32) ⊕ Int32) (hm : fX6_markedCells_B4 h x0 s = some o) (hc : ∀ s', o = .inl s' → fX6_markedCells_P4 X h x0 n sl s') (he : ∀ e', o = .inr e' → fX6_markedCells_E4 X h x0 n sl e') : fX6_markedCells_P4 X h x0 n sl s := by
  obtain ⟨x1, x2⟩ := s
  show XW X 4 [some (.ref x0), some (.int x1), some (.int x2)] [] h n sl
  replace hm : fX6_markedCells_b4 h x0 x1 x2 = some o := hm
  unfold fX6_markedCells_b4 at hm
  refine xw_iload_n (pc := 4) (i := 2) (x := x2) C dX6_markedCells_4 rfl rfl ?_
  refine xw_aload_n (pc := 5) (i := 0) (x := x0) C dX6_markedCells_5 rfl rfl ?_
  obtain ⟨v1, q2, hm⟩ := xbind hm
  refine xw_getI (pc := 6) C dX6_markedCells_6 fl_X6_21 q2 ?_
  refine xw_icmp_ge (pc := 9) (tgt := 29) C dX6_markedCells_9 (by decide) (fun q => ?_) (fun q => ?_)
  · replace hm := xif_t q hm
    obtain rfl := Option.some.inj hm
    refine xw_sub (pc := 29) _ ?_ (he _ rfl)
    exact ⟨Or.inl rfl, Or.inr rfl, Or.inl rfl, trivial⟩
  · replace hm := xif_f q hm
    refine xw_aload_n (pc := 12) (i := 0) (x := x0) C dX6_markedCells_12 rfl rfl ?_
    refine xw_iload_n (pc := 13) (i := 2) (x := x2) C dX6_markedCells_13 rfl rfl ?_
    obtain ⟨_, q3, hm⟩ := xbind hm
    obtain ⟨v4, q5, hm⟩ := xbind hm
    refine xw_callV1 (pc := 14) (As := [.int x2]) (st := []) C dX6_markedCells_14 (wX6_markOf q5) dd_X6_markOf lk_X6_46 dv_X6_markOf (xco_spec q3) rfl (Nat.le_of_ble_eq_true rfl) (Nat.le_of_ble_eq_true rfl) (Nat.le_of_ble_eq_true rfl) ⟨Nat.le_refl _, Nat.le_refl _⟩ hN ?_
    refine xw_if_eq (pc := 17) (tgt := 23) C dX6_markedCells_17 (by decide) (fun q => ?_) (fun q => ?_)
    · replace hm := xif_t q hm
      refine xw_iinc (pc := 23) (i := 2) (x := x2) (v := (x2 + (1 : Int32))) (L' := [some (.ref x0), some (.int x1), some (.int (x2 + (1 : Int32)))]) C dX6_markedCells_23 rfl (congrArg (HAdd.hAdd _) xk_i_1) (Nat.le_of_ble_eq_true rfl) rfl ?_
      refine xw_goto (pc := 26) (tgt := 4) C dX6_markedCells_26 (by decide) ?_
      obtain rfl := Option.some.inj hm
      refine xw_sub (pc := 4) _ ?_ (hc _ rfl)
      exact ⟨Or.inr rfl, Or.inr rfl, Or.inr rfl, trivial⟩
    · replace hm := xif_f q hm
      refine xw_iinc (pc := 20) (i := 1) (x := x1) (v := (x1 + (1 : Int32))) (L' := [some (.ref x0), some (.int (x1 + (1 : Int32))), some (.int x2)]) C dX6_markedCells_20 rfl (congrArg (HAdd.hAdd _) xk_i_1) (Nat.le_of_ble_eq_true rfl) rfl ?_
      refine xw_iinc (pc := 23) (i := 2) (x := x2) (v := (x2 + (1 : Int32))) (L' := [some (.ref x0), some (.int (x1 + (1 : Int32))), some (.int (x2 + (1 : Int32)))]) C dX6_markedCells_23 rfl (congrArg (HAdd.hAdd _) xk_i_1) (Nat.le_of_ble_eq_true rfl) rfl ?_
      refine xw_goto (pc := 26) (tgt := 4) C dX6_markedCells_26 (by decide) ?_
      obtain rfl := Option.some.inj hm
      refine xw_sub (pc := 4) _ ?_ (hc _ rfl)
      exact ⟨Or.inr rfl, Or.inr rfl, Or.inr rfl, trivial⟩
set_option maxHeartbeats 4000000 in
set_option maxRecDepth 100000 in
theorem wX6_markedCells {l : Launch} {n sl : Nat} {h : XH} {x0 : Nat} {o : Int32} (hm : fX6_markedCells h x0 = some o) : XM l yX6_markedCells cX6_markedCells 3 (some .int) 2 42 [.ref x0] h n sl (some (.int o)) h n sl := by
  refine xm_of pnX6 [some (.ref x0), none, none] 2 rfl (Nat.le_of_ble_eq_true rfl) ?_
  intro X hT C
  replace C : XOK X RX6 cX6_markedCells 3 "markedCells" (some .int) 2 42 := C
  obtain ⟨-, hN, hX⟩ := hT
  unfold fX6_markedCells at hm
  refine xw_iconst (pc := 0) (v := 0) C dX6_markedCells_0 xk_i_0 ?_
  refine xw_istore_n (pc := 1) (i := 1) (x := (0 : Int32)) (L' := [some (.ref x0), some (.int (0 : Int32)), none]) C dX6_markedCells_1 rfl (Nat.le_of_ble_eq_true rfl) rfl ?_
  refine xw_iconst (pc := 2) (v := 0) C dX6_markedCells_2 xk_i_0 ?_
  refine xw_istore_n (pc := 3) (i := 2) (x := (0 : Int32)) (L' := [some (.ref x0), some (.int (0 : Int32)), some (.int (0 : Int32))]) C dX6_markedCells_3 rfl (Nat.le_of_ble_eq_true rfl) rfl ?_
  obtain ⟨e6, q7, hm⟩ := xbind hm
  refine xw_sub (pc := 4) [some (.ref x0), some (.int (0 : Int32)), some (.int (0 : Int32))] ⟨Or.inr rfl, Or.inr rfl, Or.inr rfl, trivial⟩ ?_
  refine xloop_walk (fX6_markedCells_B4 h x0) (fX6_markedCells_P4 X h x0 n sl) (fX6_markedCells_E4 X h x0 n sl) (fun s' o' => fX6_markedCells_B4_w C hN s' o') 5000 ((0 : Int32), (0 : Int32)) e6 q7 ?_
  show XW X 29 [none, some (.int e6), none] [] h n sl
  refine xw_iload_n (pc := 29) (i := 1) (x := e6) C dX6_markedCells_29 rfl rfl ?_
  obtain rfl := Option.some.inj hm
  exact xw_ireturn (pc := 30) C dX6_markedCells_30 rfl hX
def fX6_isSameTurnedBy_P2 (X : XCtx) (h : XH) (x0 : Nat) (x1 : Int32) (n sl : Nat) (s : Int32) : Prop := XW X 2 [some (.ref x0), some (.int x1), some (.int s)] [] h n sl
def fX6_isSameTurnedBy_E2 (X : XCtx) (h : XH) (x0 : Nat) (x1 : Int32) (n sl : Nat) (e : (Unit ⊕ Unit)) : Prop := match e with
  | .inl e => XW X 33 [none, none, none] [] h n sl
  | .inr e => XW X 41 [none, none, none] [] h n sl
set_option maxHeartbeats 4000000 in
set_option maxRecDepth 100000 in
theorem fX6_isSameTurnedBy_B2_w {X : XCtx} (C : XOK X RX6 cX6_isSameTurnedBy 3 "isSameTurnedBy" (some .boolean) 1 21) {n sl : Nat} (hN : XN X n sl) {h : XH} {x0 : Nat} {x1 : Int32} (s : Int32) (o : Int32 ⊕ (Unit ⊕ Unit)) (hm : fX6_isSameTurnedBy_B2 h x0 x1 s = some o) (hc : ∀ s', o = .inl s' → fX6_isSameTurnedBy_P2 X h x0 x1 n sl s') (he : ∀ e', o = .inr e' → fX6_isSameTurnedBy_E2 X h x0 x1 n sl e') : fX6_isSameTurnedBy_P2 X h x0 x1 n sl s := by
  revert s; intro x2 hm
  show XW X 2 [some (.ref x0), some (.int x1), some (.int x2)] [] h n sl
  replace hm : fX6_isSameTurnedBy_b2 h x0 x1 x2 = some o := hm
  unfold fX6_isSameTurnedBy_b2 at hm
  refine xw_iload_n (pc := 2) (i := 2) (x := x2) C dX6_isSameTurnedBy_2 rfl rfl ?_
  refine xw_iload_n (pc := 3) (i := 1) (x := x1) C dX6_isSameTurnedBy_3 rfl rfl ?_
  refine xw_iadd (pc := 4) C dX6_isSameTurnedBy_4 ?_
  refine xw_aload_n (pc := 5) (i := 0) (x := x0) C dX6_isSameTurnedBy_5 rfl rfl ?_
  obtain ⟨v1, q2, hm⟩ := xbind hm
  refine xw_getI (pc := 6) C dX6_isSameTurnedBy_6 fl_X6_21 q2 ?_
  refine xw_icmp_ge (pc := 9) (tgt := 41) C dX6_isSameTurnedBy_9 (by decide) (fun q => ?_) (fun q => ?_)
  · replace hm := xif_t q hm
    obtain rfl := Option.some.inj hm
    refine xw_sub (pc := 41) _ ?_ (he _ rfl)
    exact ⟨Or.inl rfl, Or.inl rfl, Or.inl rfl, trivial⟩
  · replace hm := xif_f q hm
    refine xw_aload_n (pc := 12) (i := 0) (x := x0) C dX6_isSameTurnedBy_12 rfl rfl ?_
    obtain ⟨v3, q4, hm⟩ := xbind hm
    refine xw_getR (pc := 13) C dX6_isSameTurnedBy_13 fl_X6_9 q4 ?_
    refine xw_iload_n (pc := 16) (i := 2) (x := x2) C dX6_isSameTurnedBy_16 rfl rfl ?_
    obtain ⟨v5, q6, hm⟩ := xbind hm
    refine xw_callSN1 (pc := 17) (As := [.ref v3, .int x2]) (st := []) C dX6_isSameTurnedBy_17 (wX8_at q6) dd_X8_at lk_X6_42 ds_X8_at rfl (Nat.le_of_ble_eq_true rfl) (Nat.le_of_ble_eq_true rfl) (Nat.le_of_ble_eq_true rfl) ⟨Nat.le_refl _, Nat.le_refl _⟩ hN ?_
    refine xw_aload_n (pc := 20) (i := 0) (x := x0) C dX6_isSameTurnedBy_20 rfl rfl ?_
    obtain ⟨v7, q8, hm⟩ := xbind hm
    refine xw_getR (pc := 21) C dX6_isSameTurnedBy_21 fl_X6_9 q8 ?_
    refine xw_iload_n (pc := 24) (i := 2) (x := x2) C dX6_isSameTurnedBy_24 rfl rfl ?_
    refine xw_iload_n (pc := 25) (i := 1) (x := x1) C dX6_isSameTurnedBy_25 rfl rfl ?_
    refine xw_iadd (pc := 26) C dX6_isSameTurnedBy_26 ?_
    obtain ⟨v9, q10, hm⟩ := xbind hm
    refine xw_callSN1 (pc := 27) (As := [.ref v7, .int (x2 + x1)]) (st := [.int v5]) C dX6_isSameTurnedBy_27 (wX8_at q10) dd_X8_at lk_X6_42 ds_X8_at rfl (Nat.le_of_ble_eq_true rfl) (Nat.le_of_ble_eq_true rfl) (Nat.le_of_ble_eq_true rfl) ⟨Nat.le_refl _, Nat.le_refl _⟩ hN ?_
    refine xw_icmp_eq (pc := 30) (tgt := 35) C dX6_isSameTurnedBy_30 (by decide) (fun q => ?_) (fun q => ?_)
    · replace hm := xif_t q hm
      refine xw_iinc (pc := 35) (i := 2) (x := x2) (v := (x2 + (1 : Int32))) (L' := [some (.ref x0), some (.int x1), some (.int (x2 + (1 : Int32)))]) C dX6_isSameTurnedBy_35 rfl (congrArg (HAdd.hAdd _) xk_i_1) (Nat.le_of_ble_eq_true rfl) rfl ?_
      refine xw_goto (pc := 38) (tgt := 2) C dX6_isSameTurnedBy_38 (by decide) ?_
      obtain rfl := Option.some.inj hm
      refine xw_sub (pc := 2) _ ?_ (hc _ rfl)
      exact ⟨Or.inr rfl, Or.inr rfl, Or.inr rfl, trivial⟩
    · replace hm := xif_f q hm
      obtain rfl := Option.some.inj hm
      refine xw_sub (pc := 33) _ ?_ (he _ rfl)
      exact ⟨Or.inl rfl, Or.inl rfl, Or.inl rfl, trivial⟩
set_option maxHeartbeats 4000000 in
set_option maxRecDepth 100000 in
theorem wX6_isSameTurnedBy {l : Launch} {n sl : Nat} {h : XH} {x0 : Nat} {x1 : Int32} {o : Bool} (hm : fX6_isSameTurnedBy h x0 x1 = some o) : XM l yX6_isSameTurnedBy cX6_isSameTurnedBy 3 (some .boolean) 1 21 [.ref x0, .int x1] h n sl (some (.int (xbi o))) h n sl := by
  refine xm_of pnX6 [some (.ref x0), some (.int x1), none] 1 rfl (Nat.le_of_ble_eq_true rfl) ?_
  intro X hT C
  replace C : XOK X RX6 cX6_isSameTurnedBy 3 "isSameTurnedBy" (some .boolean) 1 21 := C
  obtain ⟨-, hN, hX⟩ := hT
  unfold fX6_isSameTurnedBy at hm
  refine xw_iconst (pc := 0) (v := 0) C dX6_isSameTurnedBy_0 xk_i_0 ?_
  refine xw_istore_n (pc := 1) (i := 2) (x := (0 : Int32)) (L' := [some (.ref x0), some (.int x1), some (.int (0 : Int32))]) C dX6_isSameTurnedBy_1 rfl (Nat.le_of_ble_eq_true rfl) rfl ?_
  obtain ⟨e11, q12, hm⟩ := xbind hm
  refine xw_sub (pc := 2) [some (.ref x0), some (.int x1), some (.int (0 : Int32))] ⟨Or.inr rfl, Or.inr rfl, Or.inr rfl, trivial⟩ ?_
  refine xloop_walk (fX6_isSameTurnedBy_B2 h x0 x1) (fX6_isSameTurnedBy_P2 X h x0 x1 n sl) (fX6_isSameTurnedBy_E2 X h x0 x1 n sl) (fun s' o' => fX6_isSameTurnedBy_B2_w C hN s' o') 5000 (0 : Int32) e11 q12 ?_
  rcases e11 with e11 | e11
  · dsimp only at hm
    show XW X 33 [none, none, none] [] h n sl
    refine xw_iconst (pc := 33) (v := 0) C dX6_isSameTurnedBy_33 xk_i_0 ?_
    obtain rfl := Option.some.inj hm
    exact xw_zreturn (pc := 34) (v := xbi false) C dX6_isSameTurnedBy_34 rfl (xbi_nar _) hX
  · dsimp only at hm
    show XW X 41 [none, none, none] [] h n sl
    refine xw_iconst (pc := 41) (v := 1) C dX6_isSameTurnedBy_41 xk_i_1 ?_
    obtain rfl := Option.some.inj hm
    exact xw_zreturn (pc := 42) (v := xbi true) C dX6_isSameTurnedBy_42 rfl (xbi_nar _) hX
def fX6_measure_P2 (X : XCtx) (h : XH) (x0 : Nat) (n sl : Nat) (s : Int32) : Prop := XW X 2 [some (.ref x0), some (.int s)] [] h n sl
def fX6_measure_E2 (X : XCtx) (h : XH) (x0 : Nat) (n sl : Nat) (e : (Int32 ⊕ Unit)) : Prop := match e with
  | .inl e => XW X 29 [none, some (.int e)] [] h n sl
  | .inr e => XW X 37 [some (.ref x0), none] [] h n sl
set_option maxHeartbeats 4000000 in
set_option maxRecDepth 100000 in
theorem fX6_measure_B2_w {X : XCtx} (C : XOK X RX6 cX6_measure 2 "measure" (some .int) 2 43) {n sl : Nat} (hN : XN X n sl) {h : XH} {x0 : Nat} (s : Int32) (o : Int32 ⊕ (Int32 ⊕ Unit)) (hm : fX6_measure_B2 h x0 s = some o) (hc : ∀ s', o = .inl s' → fX6_measure_P2 X h x0 n sl s') (he : ∀ e', o = .inr e' → fX6_measure_E2 X h x0 n sl e') : fX6_measure_P2 X h x0 n sl s := by
  revert s; intro x1 hm
  show XW X 2 [some (.ref x0), some (.int x1)] [] h n sl
  replace hm : fX6_measure_b2 h x0 x1 = some o := hm
  unfold fX6_measure_b2 at hm
  refine xw_iload_n (pc := 2) (i := 1) (x := x1) C dX6_measure_2 rfl rfl ?_
  refine xw_aload_n (pc := 3) (i := 0) (x := x0) C dX6_measure_3 rfl rfl ?_
  obtain ⟨v1, q2, hm⟩ := xbind hm
  refine xw_getI (pc := 4) C dX6_measure_4 fl_X6_21 q2 ?_
  refine xw_icmp_ge (pc := 7) (tgt := 37) C dX6_measure_7 (by decide) (fun q => ?_) (fun q => ?_)
  · replace hm := xif_t q hm
    obtain rfl := Option.some.inj hm
    refine xw_sub (pc := 37) _ ?_ (he _ rfl)
    exact ⟨Or.inr rfl, Or.inl rfl, trivial⟩
  · replace hm := xif_f q hm
    refine xw_aload_n (pc := 10) (i := 0) (x := x0) C dX6_measure_10 rfl rfl ?_
    obtain ⟨v3, q4, hm⟩ := xbind hm
    refine xw_getI (pc := 11) C dX6_measure_11 fl_X6_21 q4 ?_
    refine xw_iload_n (pc := 14) (i := 1) (x := x1) C dX6_measure_14 rfl rfl ?_
    obtain ⟨v5, q6, hm⟩ := xbind hm
    refine xw_callSN1 (pc := 15) (As := [.int v3, .int x1]) (st := []) C dX6_measure_15 (wX8_mod q6) dd_X8_mod lk_X6_50 ds_X8_mod rfl (Nat.le_of_ble_eq_true rfl) (Nat.le_of_ble_eq_true rfl) (Nat.le_of_ble_eq_true rfl) ⟨Nat.le_refl _, Nat.le_refl _⟩ hN ?_
    refine xw_if_ne (pc := 18) (tgt := 31) C dX6_measure_18 (by decide) (fun q => ?_) (fun q => ?_)
    · replace hm := xif_f q hm
      refine xw_iinc (pc := 31) (i := 1) (x := x1) (v := (x1 + (1 : Int32))) (L' := [some (.ref x0), some (.int (x1 + (1 : Int32)))]) C dX6_measure_31 rfl (congrArg (HAdd.hAdd _) xk_i_1) (Nat.le_of_ble_eq_true rfl) rfl ?_
      refine xw_goto (pc := 34) (tgt := 2) C dX6_measure_34 (by decide) ?_
      obtain rfl := Option.some.inj hm
      refine xw_sub (pc := 2) _ ?_ (hc _ rfl)
      exact ⟨Or.inr rfl, Or.inr rfl, trivial⟩
    · replace hm := xif_t q hm
      refine xw_aload_n (pc := 21) (i := 0) (x := x0) C dX6_measure_21 rfl rfl ?_
      refine xw_iload_n (pc := 22) (i := 1) (x := x1) C dX6_measure_22 rfl rfl ?_
      obtain ⟨_, q7, hm⟩ := xbind hm
      obtain ⟨v8, q9, hm⟩ := xbind hm
      refine xw_callV1 (pc := 23) (As := [.int x1]) (st := []) C dX6_measure_23 (wX6_isSameTurnedBy q9) dd_X6_isSameTurnedBy lk_X6_54 dv_X6_isSameTurnedBy (xco_spec q7) rfl (Nat.le_of_ble_eq_true rfl) (Nat.le_of_ble_eq_true rfl) (Nat.le_of_ble_eq_true rfl) ⟨Nat.le_refl _, Nat.le_refl _⟩ hN ?_
      refine xw_if_eqZ (pc := 26) (b := v8) (tgt := 31) C dX6_measure_26 (by decide) (fun q => ?_) (fun q => ?_)
      · replace hm := xif_f q hm
        refine xw_iinc (pc := 31) (i := 1) (x := x1) (v := (x1 + (1 : Int32))) (L' := [some (.ref x0), some (.int (x1 + (1 : Int32)))]) C dX6_measure_31 rfl (congrArg (HAdd.hAdd _) xk_i_1) (Nat.le_of_ble_eq_true rfl) rfl ?_
        refine xw_goto (pc := 34) (tgt := 2) C dX6_measure_34 (by decide) ?_
        obtain rfl := Option.some.inj hm
        refine xw_sub (pc := 2) _ ?_ (hc _ rfl)
        exact ⟨Or.inr rfl, Or.inr rfl, trivial⟩
      · replace hm := xif_t q hm
        obtain rfl := Option.some.inj hm
        refine xw_sub (pc := 29) _ ?_ (he _ rfl)
        exact ⟨Or.inl rfl, Or.inr rfl, trivial⟩
set_option maxHeartbeats 4000000 in
set_option maxRecDepth 100000 in
theorem wX6_measure {l : Launch} {n sl : Nat} {h : XH} {x0 : Nat} {o : Int32} (hm : fX6_measure h x0 = some o) : XM l yX6_measure cX6_measure 2 (some .int) 2 43 [.ref x0] h n sl (some (.int o)) h n sl := by
  refine xm_of pnX6 [some (.ref x0), none] 1 rfl (Nat.le_of_ble_eq_true rfl) ?_
  intro X hT C
  replace C : XOK X RX6 cX6_measure 2 "measure" (some .int) 2 43 := C
  obtain ⟨-, hN, hX⟩ := hT
  unfold fX6_measure at hm
  refine xw_iconst (pc := 0) (v := 1) C dX6_measure_0 xk_i_1 ?_
  refine xw_istore_n (pc := 1) (i := 1) (x := (1 : Int32)) (L' := [some (.ref x0), some (.int (1 : Int32))]) C dX6_measure_1 rfl (Nat.le_of_ble_eq_true rfl) rfl ?_
  obtain ⟨e10, q11, hm⟩ := xbind hm
  refine xw_sub (pc := 2) [some (.ref x0), some (.int (1 : Int32))] ⟨Or.inr rfl, Or.inr rfl, trivial⟩ ?_
  refine xloop_walk (fX6_measure_B2 h x0) (fX6_measure_P2 X h x0 n sl) (fX6_measure_E2 X h x0 n sl) (fun s' o' => fX6_measure_B2_w C hN s' o') 5000 (1 : Int32) e10 q11 ?_
  rcases e10 with e10 | e10
  · dsimp only at hm
    show XW X 29 [none, some (.int e10)] [] h n sl
    refine xw_iload_n (pc := 29) (i := 1) (x := e10) C dX6_measure_29 rfl rfl ?_
    obtain rfl := Option.some.inj hm
    exact xw_ireturn (pc := 30) C dX6_measure_30 rfl hX
  · dsimp only at hm
    show XW X 37 [some (.ref x0), none] [] h n sl
    refine xw_aload_n (pc := 37) (i := 0) (x := x0) C dX6_measure_37 rfl rfl ?_
    obtain ⟨v12, q13, hm⟩ := xbind hm
    refine xw_getI (pc := 38) C dX6_measure_38 fl_X6_21 q13 ?_
    obtain rfl := Option.some.inj hm
    exact xw_ireturn (pc := 41) C dX6_measure_41 rfl hX
set_option maxHeartbeats 4000000 in
set_option maxRecDepth 100000 in
theorem wX8_count {l : Launch} {n sl : Nat} {h : XH} {x0 : Nat} {x1 : Int32} {o : Int32} (hm : fX8_count h x0 x1 = some o) : XM l yX8_count cX8_count 2 (some .int) 4 86 [.ref x0, .int x1] h n sl (some (.int o)) h n sl := by
  refine xm_of pnX8 [some (.ref x0), some (.int x1)] 0 rfl (Nat.le_of_ble_eq_true rfl) ?_
  intro X hT C
  replace C : XOK X RX8 cX8_count 2 "count" (some .int) 4 86 := C
  obtain ⟨-, hN, hX⟩ := hT
  unfold fX8_count at hm
  refine xw_iload_n (pc := 0) (i := 1) (x := x1) C dX8_count_0 rfl rfl ?_
  by_cases q1 : x1 = 0
  · replace hm := xif_t q1 hm
    refine xw_tabIn (pc := 1) (v := 0) (off := 87) (tgt := 88) C dX8_count_1 q1 (by decide) (by decide) (by decide) (by decide) ?_
    refine xw_aload_n (pc := 88) (i := 0) (x := x0) C dX8_count_88 rfl rfl ?_
    obtain ⟨v19, q20, hm⟩ := xbind hm
    refine xw_getR (pc := 89) C dX8_count_89 fl_X8_10 q20 ?_
    obtain ⟨v21, q22, hm⟩ := xbind hm
    refine xw_getR (pc := 92) C dX8_count_92 fl_X8_67 q22 ?_
    obtain ⟨v23, q24, hm⟩ := xbind hm
    refine xw_getI (pc := 95) C dX8_count_95 fl_X8_74 q24 ?_
    obtain rfl := Option.some.inj hm
    exact xw_ireturn (pc := 98) C dX8_count_98 rfl hX
  · replace hm := xif_f q1 hm
    by_cases q2 : x1 = 1
    · replace hm := xif_t q2 hm
      refine xw_tabIn (pc := 1) (v := 1) (off := 98) (tgt := 99) C dX8_count_1 q2 (by decide) (by decide) (by decide) (by decide) ?_
      refine xw_aload_n (pc := 99) (i := 0) (x := x0) C dX8_count_99 rfl rfl ?_
      obtain ⟨v25, q26, hm⟩ := xbind hm
      refine xw_getR (pc := 100) C dX8_count_100 fl_X8_10 q26 ?_
      obtain ⟨v27, q28, hm⟩ := xbind hm
      refine xw_getR (pc := 103) C dX8_count_103 fl_X8_67 q28 ?_
      obtain ⟨_, q29, hm⟩ := xbind hm
      obtain ⟨v30, q31, hm⟩ := xbind hm
      refine xw_callV1 (pc := 106) (As := []) (st := []) C dX8_count_106 (wX6_markedCells q31) dd_X6_markedCells lk_X8_271 dv_X6_markedCells (xco_spec q29) rfl (Nat.le_of_ble_eq_true rfl) (Nat.le_of_ble_eq_true rfl) (Nat.le_of_ble_eq_true rfl) ⟨Nat.le_refl _, Nat.le_refl _⟩ hN ?_
      obtain rfl := Option.some.inj hm
      exact xw_ireturn (pc := 109) C dX8_count_109 rfl hX
    · replace hm := xif_f q2 hm
      by_cases q3 : x1 = 2
      · replace hm := xif_t q3 hm
        refine xw_tabIn (pc := 1) (v := 2) (off := 109) (tgt := 110) C dX8_count_1 q3 (by decide) (by decide) (by decide) (by decide) ?_
        refine xw_aload_n (pc := 110) (i := 0) (x := x0) C dX8_count_110 rfl rfl ?_
        obtain ⟨v32, q33, hm⟩ := xbind hm
        refine xw_getR (pc := 111) C dX8_count_111 fl_X8_10 q33 ?_
        obtain ⟨v34, q35, hm⟩ := xbind hm
        refine xw_getR (pc := 114) C dX8_count_114 fl_X8_67 q35 ?_
        obtain ⟨_, q36, hm⟩ := xbind hm
        obtain ⟨v37, q38, hm⟩ := xbind hm
        refine xw_callV1 (pc := 117) (As := []) (st := []) C dX8_count_117 (wX6_measure q38) dd_X6_measure lk_X8_156 dv_X6_measure (xco_spec q36) rfl (Nat.le_of_ble_eq_true rfl) (Nat.le_of_ble_eq_true rfl) (Nat.le_of_ble_eq_true rfl) ⟨Nat.le_refl _, Nat.le_refl _⟩ hN ?_
        obtain rfl := Option.some.inj hm
        exact xw_ireturn (pc := 120) C dX8_count_120 rfl hX
      · replace hm := xif_f q3 hm
        by_cases q4 : x1 = 3
        · replace hm := xif_t q4 hm
          refine xw_tabIn (pc := 1) (v := 3) (off := 120) (tgt := 121) C dX8_count_1 q4 (by decide) (by decide) (by decide) (by decide) ?_
          refine xw_aload_n (pc := 121) (i := 0) (x := x0) C dX8_count_121 rfl rfl ?_
          obtain ⟨v39, q40, hm⟩ := xbind hm
          refine xw_getR (pc := 122) C dX8_count_122 fl_X8_10 q40 ?_
          obtain ⟨v41, q42, hm⟩ := xbind hm
          refine xw_getR (pc := 125) C dX8_count_125 fl_X8_67 q42 ?_
          obtain ⟨v43, q44, hm⟩ := xbind hm
          refine xw_getI (pc := 128) C dX8_count_128 fl_X8_96 q44 ?_
          obtain rfl := Option.some.inj hm
          exact xw_ireturn (pc := 131) C dX8_count_131 rfl hX
        · replace hm := xif_f q4 hm
          by_cases q5 : x1 = 4
          · replace hm := xif_t q5 hm
            refine xw_tabIn (pc := 1) (v := 4) (off := 131) (tgt := 132) C dX8_count_1 q5 (by decide) (by decide) (by decide) (by decide) ?_
            refine xw_aload_n (pc := 132) (i := 0) (x := x0) C dX8_count_132 rfl rfl ?_
            obtain ⟨v45, q46, hm⟩ := xbind hm
            refine xw_getR (pc := 133) C dX8_count_133 fl_X8_10 q46 ?_
            obtain ⟨v47, q48, hm⟩ := xbind hm
            refine xw_getR (pc := 136) C dX8_count_136 fl_X8_67 q48 ?_
            obtain ⟨v49, q50, hm⟩ := xbind hm
            refine xw_getI (pc := 139) C dX8_count_139 fl_X8_169 q50 ?_
            obtain rfl := Option.some.inj hm
            exact xw_ireturn (pc := 142) C dX8_count_142 rfl hX
          · replace hm := xif_f q5 hm
            by_cases q6 : x1 = 5
            · replace hm := xif_t q6 hm
              refine xw_tabIn (pc := 1) (v := 5) (off := 142) (tgt := 143) C dX8_count_1 q6 (by decide) (by decide) (by decide) (by decide) ?_
              refine xw_aload_n (pc := 143) (i := 0) (x := x0) C dX8_count_143 rfl rfl ?_
              obtain ⟨v51, q52, hm⟩ := xbind hm
              refine xw_getR (pc := 144) C dX8_count_144 fl_X8_10 q52 ?_
              obtain ⟨v53, q54, hm⟩ := xbind hm
              refine xw_getR (pc := 147) C dX8_count_147 fl_X8_67 q54 ?_
              obtain ⟨v55, q56, hm⟩ := xbind hm
              refine xw_getI (pc := 150) C dX8_count_150 fl_X8_109 q56 ?_
              obtain rfl := Option.some.inj hm
              exact xw_ireturn (pc := 153) C dX8_count_153 rfl hX
            · replace hm := xif_f q6 hm
              by_cases q7 : x1 = 6
              · replace hm := xif_t q7 hm
                refine xw_tabIn (pc := 1) (v := 6) (off := 153) (tgt := 154) C dX8_count_1 q7 (by decide) (by decide) (by decide) (by decide) ?_
                refine xw_aload_n (pc := 154) (i := 0) (x := x0) C dX8_count_154 rfl rfl ?_
                obtain ⟨v57, q58, hm⟩ := xbind hm
                refine xw_getR (pc := 155) C dX8_count_155 fl_X8_10 q58 ?_
                obtain ⟨v59, q60, hm⟩ := xbind hm
                refine xw_getR (pc := 158) C dX8_count_158 fl_X8_125 q60 ?_
                obtain ⟨v61, q62, hm⟩ := xbind hm
                refine xw_getI (pc := 161) C dX8_count_161 fl_X8_129 q62 ?_
                obtain rfl := Option.some.inj hm
                exact xw_ireturn (pc := 164) C dX8_count_164 rfl hX
              · replace hm := xif_f q7 hm
                by_cases q8 : x1 = 7
                · replace hm := xif_t q8 hm
                  refine xw_tabIn (pc := 1) (v := 7) (off := 164) (tgt := 165) C dX8_count_1 q8 (by decide) (by decide) (by decide) (by decide) ?_
                  refine xw_aload_n (pc := 165) (i := 0) (x := x0) C dX8_count_165 rfl rfl ?_
                  obtain ⟨v63, q64, hm⟩ := xbind hm
                  refine xw_getR (pc := 166) C dX8_count_166 fl_X8_10 q64 ?_
                  obtain ⟨v65, q66, hm⟩ := xbind hm
                  refine xw_getR (pc := 169) C dX8_count_169 fl_X8_125 q66 ?_
                  obtain ⟨v67, q68, hm⟩ := xbind hm
                  refine xw_getI (pc := 172) C dX8_count_172 fl_X8_134 q68 ?_
                  obtain rfl := Option.some.inj hm
                  exact xw_ireturn (pc := 175) C dX8_count_175 rfl hX
                · replace hm := xif_f q8 hm
                  by_cases q9 : x1 = 8
                  · replace hm := xif_t q9 hm
                    refine xw_tabIn (pc := 1) (v := 8) (off := 175) (tgt := 176) C dX8_count_1 q9 (by decide) (by decide) (by decide) (by decide) ?_
                    refine xw_aload_n (pc := 176) (i := 0) (x := x0) C dX8_count_176 rfl rfl ?_
                    obtain ⟨v69, q70, hm⟩ := xbind hm
                    refine xw_getR (pc := 177) C dX8_count_177 fl_X8_10 q70 ?_
                    obtain ⟨v71, q72, hm⟩ := xbind hm
                    refine xw_getR (pc := 180) C dX8_count_180 fl_X8_125 q72 ?_
                    obtain ⟨_, q73, hm⟩ := xbind hm
                    obtain ⟨v74, q75, hm⟩ := xbind hm
                    refine xw_callV1 (pc := 183) (As := []) (st := []) C dX8_count_183 (wX2_number q75) dd_X2_number lk_X8_137 dv_X2_number (xco_spec q73) rfl (Nat.le_of_ble_eq_true rfl) (Nat.le_of_ble_eq_true rfl) (Nat.le_of_ble_eq_true rfl) ⟨Nat.le_refl _, Nat.le_refl _⟩ hN ?_
                    obtain rfl := Option.some.inj hm
                    exact xw_ireturn (pc := 186) C dX8_count_186 rfl hX
                  · replace hm := xif_f q9 hm
                    by_cases q10 : x1 = 9
                    · replace hm := xif_t q10 hm
                      refine xw_tabIn (pc := 1) (v := 9) (off := 186) (tgt := 187) C dX8_count_1 q10 (by decide) (by decide) (by decide) (by decide) ?_
                      refine xw_aload_n (pc := 187) (i := 0) (x := x0) C dX8_count_187 rfl rfl ?_
                      obtain ⟨v76, q77, hm⟩ := xbind hm
                      refine xw_getR (pc := 188) C dX8_count_188 fl_X8_10 q77 ?_
                      obtain ⟨v78, q79, hm⟩ := xbind hm
                      refine xw_getR (pc := 191) C dX8_count_191 fl_X8_181 q79 ?_
                      obtain ⟨v80, q81, hm⟩ := xbind hm
                      refine xw_getI (pc := 194) C dX8_count_194 fl_X8_190 q81 ?_
                      obtain rfl := Option.some.inj hm
                      exact xw_ireturn (pc := 197) C dX8_count_197 rfl hX
                    · replace hm := xif_f q10 hm
                      by_cases q11 : x1 = 10
                      · replace hm := xif_t q11 hm
                        refine xw_tabIn (pc := 1) (v := 10) (off := 197) (tgt := 198) C dX8_count_1 q11 (by decide) (by decide) (by decide) (by decide) ?_
                        refine xw_aload_n (pc := 198) (i := 0) (x := x0) C dX8_count_198 rfl rfl ?_
                        obtain ⟨v82, q83, hm⟩ := xbind hm
                        refine xw_getR (pc := 199) C dX8_count_199 fl_X8_10 q83 ?_
                        obtain ⟨v84, q85, hm⟩ := xbind hm
                        refine xw_getR (pc := 202) C dX8_count_202 fl_X8_181 q85 ?_
                        obtain ⟨v86, q87, hm⟩ := xbind hm
                        refine xw_getI (pc := 205) C dX8_count_205 fl_X8_208 q87 ?_
                        obtain rfl := Option.some.inj hm
                        exact xw_ireturn (pc := 208) C dX8_count_208 rfl hX
                      · replace hm := xif_f q11 hm
                        by_cases q12 : x1 = 11
                        · replace hm := xif_t q12 hm
                          refine xw_tabIn (pc := 1) (v := 11) (off := 208) (tgt := 209) C dX8_count_1 q12 (by decide) (by decide) (by decide) (by decide) ?_
                          refine xw_aload_n (pc := 209) (i := 0) (x := x0) C dX8_count_209 rfl rfl ?_
                          obtain ⟨v88, q89, hm⟩ := xbind hm
                          refine xw_getR (pc := 210) C dX8_count_210 fl_X8_10 q89 ?_
                          obtain ⟨v90, q91, hm⟩ := xbind hm
                          refine xw_getR (pc := 213) C dX8_count_213 fl_X8_226 q91 ?_
                          obtain ⟨v92, q93, hm⟩ := xbind hm
                          refine xw_getI (pc := 216) C dX8_count_216 fl_X8_230 q93 ?_
                          obtain rfl := Option.some.inj hm
                          exact xw_ireturn (pc := 219) C dX8_count_219 rfl hX
                        · replace hm := xif_f q12 hm
                          by_cases q13 : x1 = 12
                          · replace hm := xif_t q13 hm
                            refine xw_tabIn (pc := 1) (v := 12) (off := 219) (tgt := 220) C dX8_count_1 q13 (by decide) (by decide) (by decide) (by decide) ?_
                            refine xw_aload_n (pc := 220) (i := 0) (x := x0) C dX8_count_220 rfl rfl ?_
                            obtain ⟨v94, q95, hm⟩ := xbind hm
                            refine xw_getR (pc := 221) C dX8_count_221 fl_X8_10 q95 ?_
                            obtain ⟨v96, q97, hm⟩ := xbind hm
                            refine xw_getR (pc := 224) C dX8_count_224 fl_X8_226 q97 ?_
                            obtain ⟨v98, q99, hm⟩ := xbind hm
                            refine xw_getI (pc := 227) C dX8_count_227 fl_X8_233 q99 ?_
                            obtain rfl := Option.some.inj hm
                            exact xw_ireturn (pc := 230) C dX8_count_230 rfl hX
                          · replace hm := xif_f q13 hm
                            by_cases q14 : x1 = 13
                            · replace hm := xif_t q14 hm
                              refine xw_tabIn (pc := 1) (v := 13) (off := 230) (tgt := 231) C dX8_count_1 q14 (by decide) (by decide) (by decide) (by decide) ?_
                              refine xw_aload_n (pc := 231) (i := 0) (x := x0) C dX8_count_231 rfl rfl ?_
                              obtain ⟨v100, q101, hm⟩ := xbind hm
                              refine xw_getR (pc := 232) C dX8_count_232 fl_X8_10 q101 ?_
                              obtain ⟨v102, q103, hm⟩ := xbind hm
                              refine xw_getR (pc := 235) C dX8_count_235 fl_X8_226 q103 ?_
                              obtain ⟨v104, q105, hm⟩ := xbind hm
                              refine xw_getI (pc := 238) C dX8_count_238 fl_X8_242 q105 ?_
                              obtain rfl := Option.some.inj hm
                              exact xw_ireturn (pc := 241) C dX8_count_241 rfl hX
                            · replace hm := xif_f q14 hm
                              by_cases q15 : x1 = 14
                              · replace hm := xif_t q15 hm
                                refine xw_tabIn (pc := 1) (v := 14) (off := 241) (tgt := 242) C dX8_count_1 q15 (by decide) (by decide) (by decide) (by decide) ?_
                                refine xw_aload_n (pc := 242) (i := 0) (x := x0) C dX8_count_242 rfl rfl ?_
                                obtain ⟨v106, q107, hm⟩ := xbind hm
                                refine xw_getR (pc := 243) C dX8_count_243 fl_X8_10 q107 ?_
                                obtain ⟨v108, q109, hm⟩ := xbind hm
                                refine xw_getR (pc := 246) C dX8_count_246 fl_X8_226 q109 ?_
                                obtain ⟨v110, q111, hm⟩ := xbind hm
                                refine xw_getI (pc := 249) C dX8_count_249 fl_X8_241 q111 ?_
                                obtain rfl := Option.some.inj hm
                                exact xw_ireturn (pc := 252) C dX8_count_252 rfl hX
                              · replace hm := xif_f q15 hm
                                by_cases q16 : x1 = 15
                                · replace hm := xif_t q16 hm
                                  refine xw_tabIn (pc := 1) (v := 15) (off := 252) (tgt := 253) C dX8_count_1 q16 (by decide) (by decide) (by decide) (by decide) ?_
                                  refine xw_aload_n (pc := 253) (i := 0) (x := x0) C dX8_count_253 rfl rfl ?_
                                  obtain ⟨v112, q113, hm⟩ := xbind hm
                                  refine xw_getR (pc := 254) C dX8_count_254 fl_X8_10 q113 ?_
                                  obtain ⟨v114, q115, hm⟩ := xbind hm
                                  refine xw_getR (pc := 257) C dX8_count_257 fl_X8_226 q115 ?_
                                  obtain ⟨_, q116, hm⟩ := xbind hm
                                  obtain ⟨v117, q118, hm⟩ := xbind hm
                                  refine xw_callV1 (pc := 260) (As := []) (st := []) C dX8_count_260 (wX1_openings q118) dd_X1_openings lk_X8_274 dv_X1_openings (xco_spec q116) rfl (Nat.le_of_ble_eq_true rfl) (Nat.le_of_ble_eq_true rfl) (Nat.le_of_ble_eq_true rfl) ⟨Nat.le_refl _, Nat.le_refl _⟩ hN ?_
                                  obtain rfl := Option.some.inj hm
                                  exact xw_ireturn (pc := 263) C dX8_count_263 rfl hX
                                · replace hm := xif_f q16 hm
                                  by_cases q17 : x1 = 16
                                  · replace hm := xif_t q17 hm
                                    refine xw_tabIn (pc := 1) (v := 16) (off := 263) (tgt := 264) C dX8_count_1 q17 (by decide) (by decide) (by decide) (by decide) ?_
                                    refine xw_aload_n (pc := 264) (i := 0) (x := x0) C dX8_count_264 rfl rfl ?_
                                    obtain ⟨v119, q120, hm⟩ := xbind hm
                                    refine xw_getR (pc := 265) C dX8_count_265 fl_X8_26 q120 ?_
                                    obtain ⟨v121, q122, hm⟩ := xbind hm
                                    refine xw_getI (pc := 268) C dX8_count_268 fl_X8_48 q122 ?_
                                    obtain rfl := Option.some.inj hm
                                    exact xw_ireturn (pc := 271) C dX8_count_271 rfl hX
                                  · replace hm := xif_f q17 hm
                                    by_cases q18 : x1 = 17
                                    · replace hm := xif_t q18 hm
                                      refine xw_tabIn (pc := 1) (v := 17) (off := 271) (tgt := 272) C dX8_count_1 q18 (by decide) (by decide) (by decide) (by decide) ?_
                                      refine xw_aload_n (pc := 272) (i := 0) (x := x0) C dX8_count_272 rfl rfl ?_
                                      obtain ⟨v123, q124, hm⟩ := xbind hm
                                      refine xw_getR (pc := 273) C dX8_count_273 fl_X8_19 q124 ?_
                                      obtain ⟨v125, q126, hm⟩ := xbind hm
                                      refine xw_getI (pc := 276) C dX8_count_276 fl_X8_267 q126 ?_
                                      obtain rfl := Option.some.inj hm
                                      exact xw_ireturn (pc := 279) C dX8_count_279 rfl hX
                                    · replace hm := xif_f q18 hm
                                      refine xw_tabOut (pc := 1) (tgt := 280) C dX8_count_1 (by have := lv_neT q1 (a := 0) (by decide); have := lv_neT q2 (a := 1) (by decide); have := lv_neT q3 (a := 2) (by decide); have := lv_neT q4 (a := 3) (by decide); have := lv_neT q5 (a := 4) (by decide); have := lv_neT q6 (a := 5) (by decide); have := lv_neT q7 (a := 6) (by decide); have := lv_neT q8 (a := 7) (by decide); have := lv_neT q9 (a := 8) (by decide); have := lv_neT q10 (a := 9) (by decide); have := lv_neT q11 (a := 10) (by decide); have := lv_neT q12 (a := 11) (by decide); have := lv_neT q13 (a := 12) (by decide); have := lv_neT q14 (a := 13) (by decide); have := lv_neT q15 (a := 14) (by decide); have := lv_neT q16 (a := 15) (by decide); have := lv_neT q17 (a := 16) (by decide); have := lv_neT q18 (a := 17) (by decide); omega) (by decide) ?_
                                      refine xw_sipush (pc := 280) (v := -1001) C dX8_count_280 xk_s_m1001 ?_
                                      obtain rfl := Option.some.inj hm
                                      exact xw_ireturn (pc := 283) C dX8_count_283 rfl hX
set_option maxHeartbeats 4000000 in
set_option maxRecDepth 100000 in
theorem wX0_has {l : Launch} {n sl : Nat} {h : XH} {x0 : Nat} {x1 : Int32} {o : Bool} (hm : fX0_has h x0 x1 = some o) : XM l yX0_has cX0_has 2 (some .boolean) 1 22 [.ref x0, .int x1] h n sl (some (.int (xbi o))) h n sl := by
  refine xm_of pnX0 [some (.ref x0), some (.int x1)] 0 rfl (Nat.le_of_ble_eq_true rfl) ?_
  intro X hT C
  replace C : XOK X RX0 cX0_has 2 "has" (some .boolean) 1 22 := C
  obtain ⟨-, hN, hX⟩ := hT
  unfold fX0_has at hm
  refine xw_aload_n (pc := 0) (i := 0) (x := x0) C dX0_has_0 rfl rfl ?_
  obtain ⟨v1, q2, hm⟩ := xbind hm
  refine xw_getJ (pc := 1) C dX0_has_1 fl_X0_28 q2 ?_
  refine xw_iload_n (pc := 4) (i := 1) (x := x1) C dX0_has_4 rfl rfl ?_
  refine xw_aload_n (pc := 5) (i := 0) (x := x0) C dX0_has_5 rfl rfl ?_
  obtain ⟨v3, q4, hm⟩ := xbind hm
  refine xw_getI (pc := 6) C dX0_has_6 fl_X0_18 q4 ?_
  obtain ⟨v5, q6, hm⟩ := xbind hm
  refine xw_callSN1 (pc := 9) (As := [.int x1, .int v3]) (st := [.long v1]) C dX0_has_9 (wX8_mod q6) dd_X8_mod lk_X0_36 ds_X8_mod rfl (Nat.le_of_ble_eq_true rfl) (Nat.le_of_ble_eq_true rfl) (Nat.le_of_ble_eq_true rfl) ⟨Nat.le_refl _, Nat.le_refl _⟩ hN ?_
  obtain ⟨v7, q8, hm⟩ := xbind hm
  refine xw_callSN1 (pc := 12) (As := [.long v1, .int v5]) (st := []) C dX0_has_12 (wX8_hasBit q8) dd_X8_hasBit lk_X0_40 ds_X8_hasBit rfl (Nat.le_of_ble_eq_true rfl) (Nat.le_of_ble_eq_true rfl) (Nat.le_of_ble_eq_true rfl) ⟨Nat.le_refl _, Nat.le_refl _⟩ hN ?_
  obtain rfl := Option.some.inj hm
  exact xw_zreturn (pc := 15) (v := xbi v7) C dX0_has_15 rfl (xbi_nar _) hX
def fX0_number_P8 (X : XCtx) (h : XH) (x0 : Nat) (n sl : Nat) (s : (Int32 × Int32)) : Prop := XW X 8 [some (.ref x0), some (.int s.1), some (.int s.2)] [] h n sl
def fX0_number_E8 (X : XCtx) (h : XH) (x0 : Nat) (n sl : Nat) (e : Int32) : Prop := XW X 33 [none, some (.int e), none] [] h n sl
set_option maxHeartbeats 4000000 in
set_option maxRecDepth 100000 in
theorem fX0_number_B8_w {X : XCtx} (C : XOK X RX0 cX0_number 3 "number" (some .int) 2 43) {n sl : Nat} (hN : XN X n sl) {h : XH} {x0 : Nat} (s : (Int32 × Int32)) (o : (Int32 × Int32) ⊕ Int32) (hm : fX0_number_B8 h x0 s = some o) (hc : ∀ s', o = .inl s' → fX0_number_P8 X h x0 n sl s') (he : ∀ e', o = .inr e' → fX0_number_E8 X h x0 n sl e') : fX0_number_P8 X h x0 n sl s := by
  obtain ⟨x1, x2⟩ := s
  show XW X 8 [some (.ref x0), some (.int x1), some (.int x2)] [] h n sl
  replace hm : fX0_number_b8 h x0 x1 x2 = some o := hm
  unfold fX0_number_b8 at hm
  refine xw_iload_n (pc := 8) (i := 2) (x := x2) C dX0_number_8 rfl rfl ?_
  refine xw_aload_n (pc := 9) (i := 0) (x := x0) C dX0_number_9 rfl rfl ?_
  obtain ⟨v3, q4, hm⟩ := xbind hm
  refine xw_getI (pc := 10) C dX0_number_10 fl_X0_27 q4 ?_
  refine xw_icmp_gt (pc := 13) (tgt := 33) C dX0_number_13 (by decide) (fun q => ?_) (fun q => ?_)
  · replace hm := xif_t q hm
    obtain rfl := Option.some.inj hm
    refine xw_sub (pc := 33) _ ?_ (he _ rfl)
    exact ⟨Or.inl rfl, Or.inr rfl, Or.inl rfl, trivial⟩
  · replace hm := xif_f q hm
    refine xw_aload_n (pc := 16) (i := 0) (x := x0) C dX0_number_16 rfl rfl ?_
    refine xw_iload_n (pc := 17) (i := 2) (x := x2) C dX0_number_17 rfl rfl ?_
    obtain ⟨_, q5, hm⟩ := xbind hm
    obtain ⟨v6, q7, hm⟩ := xbind hm
    refine xw_callV1 (pc := 18) (As := [.int x2]) (st := []) C dX0_number_18 (wX0_has q7) dd_X0_has lk_X0_44 dv_X0_has (xco_spec q5) rfl (Nat.le_of_ble_eq_true rfl) (Nat.le_of_ble_eq_true rfl) (Nat.le_of_ble_eq_true rfl) ⟨Nat.le_refl _, Nat.le_refl _⟩ hN ?_
    refine xw_if_eqZ (pc := 21) (b := v6) (tgt := 27) C dX0_number_21 (by decide) (fun q => ?_) (fun q => ?_)
    · replace hm := xif_f q hm
      refine xw_iinc (pc := 27) (i := 2) (x := x2) (v := (x2 + (1 : Int32))) (L' := [some (.ref x0), some (.int x1), some (.int (x2 + (1 : Int32)))]) C dX0_number_27 rfl (congrArg (HAdd.hAdd _) xk_i_1) (Nat.le_of_ble_eq_true rfl) rfl ?_
      refine xw_goto (pc := 30) (tgt := 8) C dX0_number_30 (by decide) ?_
      obtain rfl := Option.some.inj hm
      refine xw_sub (pc := 8) _ ?_ (hc _ rfl)
      exact ⟨Or.inr rfl, Or.inr rfl, Or.inr rfl, trivial⟩
    · replace hm := xif_t q hm
      refine xw_iinc (pc := 24) (i := 1) (x := x1) (v := (x1 + (1 : Int32))) (L' := [some (.ref x0), some (.int (x1 + (1 : Int32))), some (.int x2)]) C dX0_number_24 rfl (congrArg (HAdd.hAdd _) xk_i_1) (Nat.le_of_ble_eq_true rfl) rfl ?_
      refine xw_iinc (pc := 27) (i := 2) (x := x2) (v := (x2 + (1 : Int32))) (L' := [some (.ref x0), some (.int (x1 + (1 : Int32))), some (.int (x2 + (1 : Int32)))]) C dX0_number_27 rfl (congrArg (HAdd.hAdd _) xk_i_1) (Nat.le_of_ble_eq_true rfl) rfl ?_
      refine xw_goto (pc := 30) (tgt := 8) C dX0_number_30 (by decide) ?_
      obtain rfl := Option.some.inj hm
      refine xw_sub (pc := 8) _ ?_ (hc _ rfl)
      exact ⟨Or.inr rfl, Or.inr rfl, Or.inr rfl, trivial⟩
set_option maxHeartbeats 4000000 in
set_option maxRecDepth 100000 in
theorem wX0_number {l : Launch} {n sl : Nat} {h : XH} {x0 : Nat} {o : Int32} (hm : fX0_number h x0 = some o) : XM l yX0_number cX0_number 3 (some .int) 2 43 [.ref x0] h n sl (some (.int o)) h n sl := by
  refine xm_of pnX0 [some (.ref x0), none, none] 2 rfl (Nat.le_of_ble_eq_true rfl) ?_
  intro X hT C
  replace C : XOK X RX0 cX0_number 3 "number" (some .int) 2 43 := C
  obtain ⟨-, hN, hX⟩ := hT
  unfold fX0_number at hm
  refine xw_iconst (pc := 0) (v := 0) C dX0_number_0 xk_i_0 ?_
  refine xw_istore_n (pc := 1) (i := 1) (x := (0 : Int32)) (L' := [some (.ref x0), some (.int (0 : Int32)), none]) C dX0_number_1 rfl (Nat.le_of_ble_eq_true rfl) rfl ?_
  refine xw_aload_n (pc := 2) (i := 0) (x := x0) C dX0_number_2 rfl rfl ?_
  obtain ⟨v1, q2, hm⟩ := xbind hm
  refine xw_getI (pc := 3) C dX0_number_3 fl_X0_27 q2 ?_
  refine xw_ineg (pc := 6) C dX0_number_6 ?_
  refine xw_istore_n (pc := 7) (i := 2) (x := (-v1)) (L' := [some (.ref x0), some (.int (0 : Int32)), some (.int (-v1))]) C dX0_number_7 rfl (Nat.le_of_ble_eq_true rfl) rfl ?_
  obtain ⟨e8, q9, hm⟩ := xbind hm
  refine xw_sub (pc := 8) [some (.ref x0), some (.int (0 : Int32)), some (.int (-v1))] ⟨Or.inr rfl, Or.inr rfl, Or.inr rfl, trivial⟩ ?_
  refine xloop_walk (fX0_number_B8 h x0) (fX0_number_P8 X h x0 n sl) (fX0_number_E8 X h x0 n sl) (fun s' o' => fX0_number_B8_w C hN s' o') 5000 ((0 : Int32), (-v1)) e8 q9 ?_
  show XW X 33 [none, some (.int e8), none] [] h n sl
  refine xw_iload_n (pc := 33) (i := 1) (x := e8) C dX0_number_33 rfl rfl ?_
  obtain rfl := Option.some.inj hm
  exact xw_ireturn (pc := 34) C dX0_number_34 rfl hX
def fX4_allFit_P3 (X : XCtx) (h : XH) (x0 : Nat) (x1 : Int32) (x2 : Int32) (x3 : Int32) (n sl : Nat) (s : Int32) : Prop := XW X 3 [some (.ref x0), some (.int x1), some (.int x2), some (.int x3), some (.int s)] [] h n sl
def fX4_allFit_E3 (X : XCtx) (h : XH) (x0 : Nat) (x1 : Int32) (x2 : Int32) (x3 : Int32) (n sl : Nat) (e : (Unit ⊕ Unit)) : Prop := match e with
  | .inl e => XW X 46 [none, none, none, none, none] [] h n sl
  | .inr e => XW X 54 [none, none, none, none, none] [] h n sl
set_option maxHeartbeats 4000000 in
set_option maxRecDepth 100000 in
theorem fX4_allFit_B3_w {X : XCtx} (C : XOK X RX4 cX4_allFit 5 "allFit" (some .boolean) 1 22) {n sl : Nat} (hN : XN X n sl) {h : XH} {x0 : Nat} {x1 : Int32} {x2 : Int32} {x3 : Int32} (s : Int32) (o : Int32 ⊕ (Unit ⊕ Unit)) (hm : fX4_allFit_B3 h x0 x1 x2 x3 s = some o) (hc : ∀ s', o = .inl s' → fX4_allFit_P3 X h x0 x1 x2 x3 n sl s') (he : ∀ e', o = .inr e' → fX4_allFit_E3 X h x0 x1 x2 x3 n sl e') : fX4_allFit_P3 X h x0 x1 x2 x3 n sl s := by
  revert s; intro x4 hm
  show XW X 3 [some (.ref x0), some (.int x1), some (.int x2), some (.int x3), some (.int x4)] [] h n sl
  replace hm : fX4_allFit_b3 h x0 x1 x2 x3 x4 = some o := hm
  unfold fX4_allFit_b3 at hm
  refine xw_iload (pc := 3) (i := 4) (x := x4) C dX4_allFit_3 rfl ?_
  refine xw_aload_n (pc := 5) (i := 0) (x := x0) C dX4_allFit_5 rfl rfl ?_
  obtain ⟨v1, q2, hm⟩ := xbind hm
  refine xw_getI (pc := 6) C dX4_allFit_6 fl_X4_26 q2 ?_
  refine xw_icmp_ge (pc := 9) (tgt := 54) C dX4_allFit_9 (by decide) (fun q => ?_) (fun q => ?_)
  · replace hm := xif_t q hm
    obtain rfl := Option.some.inj hm
    refine xw_sub (pc := 54) _ ?_ (he _ rfl)
    exact ⟨Or.inl rfl, Or.inl rfl, Or.inl rfl, Or.inl rfl, Or.inl rfl, trivial⟩
  · replace hm := xif_f q hm
    refine xw_iload (pc := 12) (i := 4) (x := x4) C dX4_allFit_12 rfl ?_
    refine xw_iload_n (pc := 14) (i := 3) (x := x3) C dX4_allFit_14 rfl rfl ?_
    refine xw_icmp_eq (pc := 15) (tgt := 48) C dX4_allFit_15 (by decide) (fun q => ?_) (fun q => ?_)
    · replace hm := xif_t q hm
      refine xw_iinc (pc := 48) (i := 4) (x := x4) (v := (x4 + (1 : Int32))) (L' := [some (.ref x0), some (.int x1), some (.int x2), some (.int x3), some (.int (x4 + (1 : Int32)))]) C dX4_allFit_48 rfl (congrArg (HAdd.hAdd _) xk_i_1) (Nat.le_of_ble_eq_true rfl) rfl ?_
      refine xw_goto (pc := 51) (tgt := 3) C dX4_allFit_51 (by decide) ?_
      obtain rfl := Option.some.inj hm
      refine xw_sub (pc := 3) _ ?_ (hc _ rfl)
      exact ⟨Or.inr rfl, Or.inr rfl, Or.inr rfl, Or.inr rfl, Or.inr rfl, trivial⟩
    · replace hm := xif_f q hm
      refine xw_iload_n (pc := 18) (i := 1) (x := x1) C dX4_allFit_18 rfl rfl ?_
      refine xw_aload_n (pc := 19) (i := 0) (x := x0) C dX4_allFit_19 rfl rfl ?_
      obtain ⟨v3, q4, hm⟩ := xbind hm
      refine xw_getR (pc := 20) C dX4_allFit_20 fl_X4_9 q4 ?_
      refine xw_iload (pc := 23) (i := 4) (x := x4) C dX4_allFit_23 rfl ?_
      obtain ⟨v5, q6, hm⟩ := xbind hm
      refine xw_callSN1 (pc := 25) (As := [.ref v3, .int x4]) (st := [.int x1]) C dX4_allFit_25 (wX8_at q6) dd_X8_at lk_X4_33 ds_X8_at rfl (Nat.le_of_ble_eq_true rfl) (Nat.le_of_ble_eq_true rfl) (Nat.le_of_ble_eq_true rfl) ⟨Nat.le_refl _, Nat.le_refl _⟩ hN ?_
      refine xw_imul (pc := 28) C dX4_allFit_28 ?_
      refine xw_aload_n (pc := 29) (i := 0) (x := x0) C dX4_allFit_29 rfl rfl ?_
      obtain ⟨v7, q8, hm⟩ := xbind hm
      refine xw_getR (pc := 30) C dX4_allFit_30 fl_X4_15 q8 ?_
      refine xw_iload (pc := 33) (i := 4) (x := x4) C dX4_allFit_33 rfl ?_
      obtain ⟨v9, q10, hm⟩ := xbind hm
      refine xw_callSN1 (pc := 35) (As := [.ref v7, .int x4]) (st := [.int (x1 * v5)]) C dX4_allFit_35 (wX8_at q10) dd_X8_at lk_X4_33 ds_X8_at rfl (Nat.le_of_ble_eq_true rfl) (Nat.le_of_ble_eq_true rfl) (Nat.le_of_ble_eq_true rfl) ⟨Nat.le_refl _, Nat.le_refl _⟩ hN ?_
      refine xw_isub (pc := 38) C dX4_allFit_38 ?_
      refine xw_iload_n (pc := 39) (i := 2) (x := x2) C dX4_allFit_39 rfl rfl ?_
      obtain ⟨v11, q12, hm⟩ := xbind hm
      refine xw_callSN1 (pc := 40) (As := [.int ((x1 * v5) - v9), .int x2]) (st := []) C dX4_allFit_40 (wX8_mod q12) dd_X8_mod lk_X4_37 ds_X8_mod rfl (Nat.le_of_ble_eq_true rfl) (Nat.le_of_ble_eq_true rfl) (Nat.le_of_ble_eq_true rfl) ⟨Nat.le_refl _, Nat.le_refl _⟩ hN ?_
      refine xw_if_eq (pc := 43) (tgt := 48) C dX4_allFit_43 (by decide) (fun q => ?_) (fun q => ?_)
      · replace hm := xif_t q hm
        refine xw_iinc (pc := 48) (i := 4) (x := x4) (v := (x4 + (1 : Int32))) (L' := [some (.ref x0), some (.int x1), some (.int x2), some (.int x3), some (.int (x4 + (1 : Int32)))]) C dX4_allFit_48 rfl (congrArg (HAdd.hAdd _) xk_i_1) (Nat.le_of_ble_eq_true rfl) rfl ?_
        refine xw_goto (pc := 51) (tgt := 3) C dX4_allFit_51 (by decide) ?_
        obtain rfl := Option.some.inj hm
        refine xw_sub (pc := 3) _ ?_ (hc _ rfl)
        exact ⟨Or.inr rfl, Or.inr rfl, Or.inr rfl, Or.inr rfl, Or.inr rfl, trivial⟩
      · replace hm := xif_f q hm
        obtain rfl := Option.some.inj hm
        refine xw_sub (pc := 46) _ ?_ (he _ rfl)
        exact ⟨Or.inl rfl, Or.inl rfl, Or.inl rfl, Or.inl rfl, Or.inl rfl, trivial⟩
set_option maxHeartbeats 4000000 in
set_option maxRecDepth 100000 in
theorem wX4_allFit {l : Launch} {n sl : Nat} {h : XH} {x0 : Nat} {x1 : Int32} {x2 : Int32} {x3 : Int32} {o : Bool} (hm : fX4_allFit h x0 x1 x2 x3 = some o) : XM l yX4_allFit cX4_allFit 5 (some .boolean) 1 22 [.ref x0, .int x1, .int x2, .int x3] h n sl (some (.int (xbi o))) h n sl := by
  refine xm_of pnX4 [some (.ref x0), some (.int x1), some (.int x2), some (.int x3), none] 1 rfl (Nat.le_of_ble_eq_true rfl) ?_
  intro X hT C
  replace C : XOK X RX4 cX4_allFit 5 "allFit" (some .boolean) 1 22 := C
  obtain ⟨-, hN, hX⟩ := hT
  unfold fX4_allFit at hm
  refine xw_iconst (pc := 0) (v := 0) C dX4_allFit_0 xk_i_0 ?_
  refine xw_istore (pc := 1) (i := 4) (x := (0 : Int32)) (L' := [some (.ref x0), some (.int x1), some (.int x2), some (.int x3), some (.int (0 : Int32))]) C dX4_allFit_1 (Nat.le_of_ble_eq_true rfl) rfl ?_
  obtain ⟨e13, q14, hm⟩ := xbind hm
  refine xw_sub (pc := 3) [some (.ref x0), some (.int x1), some (.int x2), some (.int x3), some (.int (0 : Int32))] ⟨Or.inr rfl, Or.inr rfl, Or.inr rfl, Or.inr rfl, Or.inr rfl, trivial⟩ ?_
  refine xloop_walk (fX4_allFit_B3 h x0 x1 x2 x3) (fX4_allFit_P3 X h x0 x1 x2 x3 n sl) (fX4_allFit_E3 X h x0 x1 x2 x3 n sl) (fun s' o' => fX4_allFit_B3_w C hN s' o') 5000 (0 : Int32) e13 q14 ?_
  rcases e13 with e13 | e13
  · dsimp only at hm
    show XW X 46 [none, none, none, none, none] [] h n sl
    refine xw_iconst (pc := 46) (v := 0) C dX4_allFit_46 xk_i_0 ?_
    obtain rfl := Option.some.inj hm
    exact xw_zreturn (pc := 47) (v := xbi false) C dX4_allFit_47 rfl (xbi_nar _) hX
  · dsimp only at hm
    show XW X 54 [none, none, none, none, none] [] h n sl
    refine xw_iconst (pc := 54) (v := 1) C dX4_allFit_54 xk_i_1 ?_
    obtain rfl := Option.some.inj hm
    exact xw_zreturn (pc := 55) (v := xbi true) C dX4_allFit_55 rfl (xbi_nar _) hX
