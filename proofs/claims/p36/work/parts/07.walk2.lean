def fX6_turnsModulo_P6 (X : XCtx) (h : XH) (x0 : Nat) (x1 : Int32) (x2 : Int32) (x3 : Int32) (x4 : Int32) (n sl : Nat) (s : (Int64 × Int32)) : Prop := XW X 6 [some (.ref x0), some (.int x1), some (.int x2), some (.int x3), some (.int x4), some (.long s.1), none, some (.int s.2)] [] h n sl
def fX6_turnsModulo_E6 (X : XCtx) (h : XH) (x0 : Nat) (x1 : Int32) (x2 : Int32) (x3 : Int32) (x4 : Int32) (n sl : Nat) (e : Int64) : Prop := XW X 40 [none, none, none, none, none, some (.long e), none, none] [] h n sl
set_option maxHeartbeats 4000000 in
set_option maxRecDepth 100000 in
theorem fX6_turnsModulo_B6_w {X : XCtx} (C : XOK X RX6 cX6_turnsModulo 8 "turnsModulo" (some .long) 2 46) {n sl : Nat} (hN : XN X n sl) {h : XH} {x0 : Nat} {x1 : Int32} {x2 : Int32} {x3 : Int32} {x4 : Int32} (s : (Int64 × Int32)) (o : (Int64 × Int32) ⊕ Int64) (hm : fX6_turnsModulo_B6 h x0 x1 x2 x3 x4 s = some o) (hc : ∀ s', o = .inl s' → fX6_turnsModulo_P6 X h x0 x1 x2 x3 x4 n sl s') (he : ∀ e', o = .inr e' → fX6_turnsModulo_E6 X h x0 x1 x2 x3 x4 n sl e') : fX6_turnsModulo_P6 X h x0 x1 x2 x3 x4 n sl s := by
  obtain ⟨x5, x7⟩ := s
  show XW X 6 [some (.ref x0), some (.int x1), some (.int x2), some (.int x3), some (.int x4), some (.long x5), none, some (.int x7)] [] h n sl
  replace hm : fX6_turnsModulo_b6 h x0 x1 x2 x3 x4 x5 x7 = some o := hm
  unfold fX6_turnsModulo_b6 at hm
  refine xw_iload (pc := 6) (i := 7) (x := x7) C dX6_turnsModulo_6 rfl ?_
  refine xw_iload_n (pc := 8) (i := 3) (x := x3) C dX6_turnsModulo_8 rfl rfl ?_
  refine xw_icmp_ge (pc := 9) (tgt := 40) C dX6_turnsModulo_9 (by decide) (fun q => ?_) (fun q => ?_)
  · replace hm := xif_t q hm
    obtain rfl := Option.some.inj hm
    refine xw_sub (pc := 40) _ ?_ (he _ rfl)
    exact ⟨Or.inl rfl, Or.inl rfl, Or.inl rfl, Or.inl rfl, Or.inl rfl, Or.inr rfl, Or.inl rfl, Or.inl rfl, trivial⟩
  · replace hm := xif_f q hm
    refine xw_lload (pc := 12) (i := 5) (x := x5) C dX6_turnsModulo_12 rfl ?_
    refine xw_lconst (pc := 14) (v := 1) C dX6_turnsModulo_14 xk_l_1 ?_
    refine xw_aload_n (pc := 15) (i := 0) (x := x0) C dX6_turnsModulo_15 rfl rfl ?_
    refine xw_iload_n (pc := 16) (i := 2) (x := x2) C dX6_turnsModulo_16 rfl rfl ?_
    refine xw_iload (pc := 17) (i := 7) (x := x7) C dX6_turnsModulo_17 rfl ?_
    refine xw_iload (pc := 19) (i := 4) (x := x4) C dX6_turnsModulo_19 rfl ?_
    refine xw_imul (pc := 21) C dX6_turnsModulo_21 ?_
    refine xw_iadd (pc := 22) C dX6_turnsModulo_22 ?_
    obtain ⟨_, q1, hm⟩ := xbind hm
    obtain ⟨v2, q3, hm⟩ := xbind hm
    refine xw_callV1 (pc := 23) (As := [.int (x2 + (x7 * x4))]) (st := [.long (1 : Int64), .long x5]) C dX6_turnsModulo_23 (wX6_turnAt q3) dd_X6_turnAt lk_X6_68 dv_X6_turnAt (xco_spec q1) rfl (Nat.le_of_ble_eq_true rfl) (Nat.le_of_ble_eq_true rfl) (Nat.le_of_ble_eq_true rfl) ⟨Nat.le_refl _, Nat.le_refl _⟩ hN ?_
    refine xw_iload_n (pc := 26) (i := 1) (x := x1) C dX6_turnsModulo_26 rfl rfl ?_
    obtain ⟨v4, q5, hm⟩ := xbind hm
    refine xw_callSN1 (pc := 27) (As := [.int v2, .int x1]) (st := [.long (1 : Int64), .long x5]) C dX6_turnsModulo_27 (wX8_mod q5) dd_X8_mod lk_X6_50 ds_X8_mod rfl (Nat.le_of_ble_eq_true rfl) (Nat.le_of_ble_eq_true rfl) (Nat.le_of_ble_eq_true rfl) ⟨Nat.le_refl _, Nat.le_refl _⟩ hN ?_
    refine xw_lshl (pc := 30) C dX6_turnsModulo_30 ?_
    refine xw_lor (pc := 31) C dX6_turnsModulo_31 ?_
    obtain ⟨y6, ey6, hm⟩ := xlet_ex hm
    refine xw_topJ ey6 ?_
    refine xw_lstore (pc := 32) (i := 5) (x := y6) (L' := [some (.ref x0), some (.int x1), some (.int x2), some (.int x3), some (.int x4), some (.long y6), none, some (.int x7)]) C dX6_turnsModulo_32 (Nat.le_of_ble_eq_true rfl) rfl ?_
    refine xw_iinc (pc := 34) (i := 7) (x := x7) (v := (x7 + (1 : Int32))) (L' := [some (.ref x0), some (.int x1), some (.int x2), some (.int x3), some (.int x4), some (.long y6), none, some (.int (x7 + (1 : Int32)))]) C dX6_turnsModulo_34 rfl (congrArg (HAdd.hAdd _) xk_i_1) (Nat.le_of_ble_eq_true rfl) rfl ?_
    refine xw_goto (pc := 37) (tgt := 6) C dX6_turnsModulo_37 (by decide) ?_
    obtain rfl := Option.some.inj hm
    refine xw_sub (pc := 6) _ ?_ (hc _ rfl)
    exact ⟨Or.inr rfl, Or.inr rfl, Or.inr rfl, Or.inr rfl, Or.inr rfl, Or.inr rfl, Or.inl rfl, Or.inr rfl, trivial⟩
set_option maxHeartbeats 4000000 in
set_option maxRecDepth 100000 in
theorem wX6_turnsModulo {l : Launch} {n sl : Nat} {h : XH} {x0 : Nat} {x1 : Int32} {x2 : Int32} {x3 : Int32} {x4 : Int32} {o : Int64} (hm : fX6_turnsModulo h x0 x1 x2 x3 x4 = some o) : XM l yX6_turnsModulo cX6_turnsModulo 8 (some .long) 2 46 [.ref x0, .int x1, .int x2, .int x3, .int x4] h n sl (some (.long o)) h n sl := by
  refine xm_of pnX6 [some (.ref x0), some (.int x1), some (.int x2), some (.int x3), some (.int x4), none, none, none] 3 rfl (Nat.le_of_ble_eq_true rfl) ?_
  intro X hT C
  replace C : XOK X RX6 cX6_turnsModulo 8 "turnsModulo" (some .long) 2 46 := C
  obtain ⟨-, hN, hX⟩ := hT
  unfold fX6_turnsModulo at hm
  refine xw_lconst (pc := 0) (v := 0) C dX6_turnsModulo_0 xk_l_0 ?_
  refine xw_lstore (pc := 1) (i := 5) (x := (0 : Int64)) (L' := [some (.ref x0), some (.int x1), some (.int x2), some (.int x3), some (.int x4), some (.long (0 : Int64)), none, none]) C dX6_turnsModulo_1 (Nat.le_of_ble_eq_true rfl) rfl ?_
  refine xw_iconst (pc := 3) (v := 0) C dX6_turnsModulo_3 xk_i_0 ?_
  refine xw_istore (pc := 4) (i := 7) (x := (0 : Int32)) (L' := [some (.ref x0), some (.int x1), some (.int x2), some (.int x3), some (.int x4), some (.long (0 : Int64)), none, some (.int (0 : Int32))]) C dX6_turnsModulo_4 (Nat.le_of_ble_eq_true rfl) rfl ?_
  obtain ⟨e7, q8, hm⟩ := xbind hm
  refine xw_sub (pc := 6) [some (.ref x0), some (.int x1), some (.int x2), some (.int x3), some (.int x4), some (.long (0 : Int64)), none, some (.int (0 : Int32))] ⟨Or.inr rfl, Or.inr rfl, Or.inr rfl, Or.inr rfl, Or.inr rfl, Or.inr rfl, Or.inl rfl, Or.inr rfl, trivial⟩ ?_
  refine xloop_walk (fX6_turnsModulo_B6 h x0 x1 x2 x3 x4) (fX6_turnsModulo_P6 X h x0 x1 x2 x3 x4 n sl) (fX6_turnsModulo_E6 X h x0 x1 x2 x3 x4 n sl) (fun s' o' => fX6_turnsModulo_B6_w C hN s' o') 5000 ((0 : Int64), (0 : Int32)) e7 q8 ?_
  show XW X 40 [none, none, none, none, none, some (.long e7), none, none] [] h n sl
  refine xw_lload (pc := 40) (i := 5) (x := e7) C dX6_turnsModulo_40 rfl ?_
  obtain rfl := Option.some.inj hm
  exact xw_lreturn (pc := 42) C dX6_turnsModulo_42 rfl hX
set_option maxHeartbeats 4000000 in
set_option maxRecDepth 100000 in
theorem wX5_differentPictures {l : Launch} {n sl : Nat} {h : XH} {x0 : Nat} {o : Int32} (hm : fX5_differentPictures h x0 = some o) : XM l yX5_differentPictures cX5_differentPictures 1 (some .int) 3 73 [.ref x0] h n sl (some (.int o)) h n sl := by
  refine xm_of pnX5 [some (.ref x0)] 0 rfl (Nat.le_of_ble_eq_true rfl) ?_
  intro X hT C
  replace C : XOK X RX5 cX5_differentPictures 1 "differentPictures" (some .int) 3 73 := C
  obtain ⟨-, hN, hX⟩ := hT
  unfold fX5_differentPictures at hm
  refine xw_aload_n (pc := 0) (i := 0) (x := x0) C dX5_differentPictures_0 rfl rfl ?_
  obtain ⟨v1, q2, hm⟩ := xbind hm
  refine xw_getR (pc := 1) C dX5_differentPictures_1 fl_X5_10 q2 ?_
  refine xw_aload_n (pc := 4) (i := 0) (x := x0) C dX5_differentPictures_4 rfl rfl ?_
  obtain ⟨v3, q4, hm⟩ := xbind hm
  refine xw_getR (pc := 5) C dX5_differentPictures_5 fl_X5_10 q4 ?_
  obtain ⟨_, q5, hm⟩ := xbind hm
  obtain ⟨v6, q7, hm⟩ := xbind hm
  refine xw_callV1 (pc := 8) (As := []) (st := [.ref v1]) C dX5_differentPictures_8 (wX6_measure q7) dd_X6_measure lk_X5_50 dv_X6_measure (xco_spec q5) rfl (Nat.le_of_ble_eq_true rfl) (Nat.le_of_ble_eq_true rfl) (Nat.le_of_ble_eq_true rfl) ⟨Nat.le_refl _, Nat.le_refl _⟩ hN ?_
  refine xw_aload_n (pc := 11) (i := 0) (x := x0) C dX5_differentPictures_11 rfl rfl ?_
  obtain ⟨v8, q9, hm⟩ := xbind hm
  refine xw_getR (pc := 12) C dX5_differentPictures_12 fl_X5_19 q9 ?_
  obtain ⟨v10, q11, hm⟩ := xbind hm
  refine xw_getI (pc := 15) C dX5_differentPictures_15 fl_X5_74 q11 ?_
  refine xw_aload_n (pc := 18) (i := 0) (x := x0) C dX5_differentPictures_18 rfl rfl ?_
  obtain ⟨v12, q13, hm⟩ := xbind hm
  refine xw_getR (pc := 19) C dX5_differentPictures_19 fl_X5_19 q13 ?_
  obtain ⟨_, q14, hm⟩ := xbind hm
  obtain ⟨v15, q16, hm⟩ := xbind hm
  refine xw_callV1 (pc := 22) (As := []) (st := [.int v10, .int v6, .ref v1]) C dX5_differentPictures_22 (wX2_number q16) dd_X2_number lk_X5_67 dv_X2_number (xco_spec q14) rfl (Nat.le_of_ble_eq_true rfl) (Nat.le_of_ble_eq_true rfl) (Nat.le_of_ble_eq_true rfl) ⟨Nat.le_refl _, Nat.le_refl _⟩ hN ?_
  refine xw_aload_n (pc := 25) (i := 0) (x := x0) C dX5_differentPictures_25 rfl rfl ?_
  obtain ⟨v17, q18, hm⟩ := xbind hm
  refine xw_getR (pc := 26) C dX5_differentPictures_26 fl_X5_19 q18 ?_
  obtain ⟨v19, q20, hm⟩ := xbind hm
  refine xw_getI (pc := 29) C dX5_differentPictures_29 fl_X5_78 q20 ?_
  obtain ⟨_, q21, hm⟩ := xbind hm
  obtain ⟨v22, q23, hm⟩ := xbind hm
  refine xw_callV1 (pc := 32) (As := [.int v6, .int v10, .int v15, .int v19]) (st := []) C dX5_differentPictures_32 (wX6_turnsModulo q23) dd_X6_turnsModulo lk_X5_81 dv_X6_turnsModulo (xco_spec q21) rfl (Nat.le_of_ble_eq_true rfl) (Nat.le_of_ble_eq_true rfl) (Nat.le_of_ble_eq_true rfl) ⟨Nat.le_refl _, Nat.le_refl _⟩ hN ?_
  obtain ⟨v24, q25, hm⟩ := xbind hm
  refine xw_callS1 (pc := 35) (As := [.long v22]) (st := []) C dX5_differentPictures_35 (wJ13_bitCount_95d88 q25) dd_J13_bitCount_95d88 lk_X5_85 ds_J13_bitCount_95d88 rfl (Nat.le_of_ble_eq_true rfl) (Nat.le_of_ble_eq_true rfl) (Nat.le_of_ble_eq_true rfl) ⟨Nat.le_refl _, Nat.le_refl _⟩ hN ?_
  obtain rfl := Option.some.inj hm
  exact xw_ireturn (pc := 38) C dX5_differentPictures_38 rfl hX
set_option maxHeartbeats 4000000 in
set_option maxRecDepth 100000 in
theorem wX8_seems {l : Launch} {n sl : Nat} {h : XH} {x0 : Nat} {x1 : Int32} {o : Int32} (hm : fX8_seems h x0 x1 = some o) : XM l yX8_seems cX8_seems 2 (some .int) 4 97 [.ref x0, .int x1] h n sl (some (.int o)) h n sl := by
  refine xm_of pnX8 [some (.ref x0), some (.int x1)] 0 rfl (Nat.le_of_ble_eq_true rfl) ?_
  intro X hT C
  replace C : XOK X RX8 cX8_seems 2 "seems" (some .int) 4 97 := C
  obtain ⟨-, hN, hX⟩ := hT
  unfold fX8_seems at hm
  refine xw_iload_n (pc := 0) (i := 1) (x := x1) C dX8_seems_0 rfl rfl ?_
  refine xw_iconst (pc := 1) (v := 0) C dX8_seems_1 xk_i_0 ?_
  refine xw_iconst (pc := 2) (v := 3) C dX8_seems_2 xk_i_3 ?_
  obtain ⟨v1, q2, hm⟩ := xbind hm
  refine xw_callS1 (pc := 3) (As := [.int x1, .int (0 : Int32), .int (3 : Int32)]) (st := []) C dX8_seems_3 (wX8_within q2) dd_X8_within lk_X8_44 ds_X8_within rfl (Nat.le_of_ble_eq_true rfl) (Nat.le_of_ble_eq_true rfl) (Nat.le_of_ble_eq_true rfl) ⟨Nat.le_refl _, Nat.le_refl _⟩ hN ?_
  refine xw_if_neZ (pc := 6) (b := v1) (tgt := 13) C dX8_seems_6 (by decide) (fun q => ?_) (fun q => ?_)
  · replace hm := xif_t q hm
    refine xw_iload_n (pc := 13) (i := 1) (x := x1) C dX8_seems_13 rfl rfl ?_
    refine xw_iconst (pc := 14) (v := 3) C dX8_seems_14 xk_i_3 ?_
    refine xw_icmp_ne (pc := 15) (tgt := 28) C dX8_seems_15 (by decide) (fun q => ?_) (fun q => ?_)
    · replace hm := xif_f q hm
      refine xw_aload_n (pc := 28) (i := 0) (x := x0) C dX8_seems_28 rfl rfl ?_
      obtain ⟨v3, q4, hm⟩ := xbind hm
      refine xw_getR (pc := 29) C dX8_seems_29 fl_X8_10 q4 ?_
      refine xw_iload_n (pc := 32) (i := 1) (x := x1) C dX8_seems_32 rfl rfl ?_
      obtain ⟨_, q5, hm⟩ := xbind hm
      obtain ⟨v6, q7, hm⟩ := xbind hm
      refine xw_callV1 (pc := 33) (As := [.int x1]) (st := []) C dX8_seems_33 (wX5_countSeeming q7) dd_X5_countSeeming lk_X8_166 dv_X5_countSeeming (xco_spec q5) rfl (Nat.le_of_ble_eq_true rfl) (Nat.le_of_ble_eq_true rfl) (Nat.le_of_ble_eq_true rfl) ⟨Nat.le_refl _, Nat.le_refl _⟩ hN ?_
      obtain rfl := Option.some.inj hm
      exact xw_ireturn (pc := 36) C dX8_seems_36 rfl hX
    · replace hm := xif_t q hm
      refine xw_aload_n (pc := 18) (i := 0) (x := x0) C dX8_seems_18 rfl rfl ?_
      obtain ⟨v8, q9, hm⟩ := xbind hm
      refine xw_getR (pc := 19) C dX8_seems_19 fl_X8_10 q9 ?_
      obtain ⟨_, q10, hm⟩ := xbind hm
      obtain ⟨v11, q12, hm⟩ := xbind hm
      refine xw_callV1 (pc := 22) (As := []) (st := []) C dX8_seems_22 (wX5_differentPictures q12) dd_X5_differentPictures lk_X8_163 dv_X5_differentPictures (xco_spec q10) rfl (Nat.le_of_ble_eq_true rfl) (Nat.le_of_ble_eq_true rfl) (Nat.le_of_ble_eq_true rfl) ⟨Nat.le_refl _, Nat.le_refl _⟩ hN ?_
      refine xw_goto (pc := 25) (tgt := 36) C dX8_seems_25 (by decide) ?_
      obtain rfl := Option.some.inj hm
      exact xw_ireturn (pc := 36) C dX8_seems_36 rfl hX
  · replace hm := xif_f q hm
    refine xw_sipush (pc := 9) (v := -1001) C dX8_seems_9 xk_s_m1001 ?_
    obtain rfl := Option.some.inj hm
    exact xw_ireturn (pc := 12) C dX8_seems_12 rfl hX
set_option maxHeartbeats 4000000 in
set_option maxRecDepth 100000 in
theorem wX3_slotAt {l : Launch} {n sl : Nat} {h : XH} {x0 : Nat} {x1 : Int32} {o : Option Nat} (hm : fX3_slotAt h x0 x1 = some o) : XM l yX3_slotAt cX3_slotAt 2 (some (.object "FlashWheelReader$State")) 0 0 [.ref x0, .int x1] h n sl (some (va_rf o)) h n sl := by
  refine xm_of pnX3 [some (.ref x0), some (.int x1)] 0 rfl (Nat.le_of_ble_eq_true rfl) ?_
  intro X hT C
  replace C : XOK X RX3 cX3_slotAt 2 "slotAt" (some (.object "FlashWheelReader$State")) 0 0 := C
  obtain ⟨-, hN, hX⟩ := hT
  unfold fX3_slotAt at hm
  refine xw_iload_n (pc := 0) (i := 1) (x := x1) C dX3_slotAt_0 rfl rfl ?_
  refine xw_if_lt (pc := 1) (tgt := 22) C dX3_slotAt_1 (by decide) (fun q => ?_) (fun q => ?_)
  · replace hm := xif_t q hm
    refine xw_null (pc := 22) C dX3_slotAt_22 ?_
    obtain rfl := Option.some.inj hm
    exact xw_areturn (pc := 23) (v := none) C dX3_slotAt_23 rfl (Or.inl ⟨_, rfl⟩) hX
  · replace hm := xif_f q hm
    refine xw_iload_n (pc := 4) (i := 1) (x := x1) C dX3_slotAt_4 rfl rfl ?_
    refine xw_aload_n (pc := 5) (i := 0) (x := x0) C dX3_slotAt_5 rfl rfl ?_
    obtain ⟨v1, q2, hm⟩ := xbind hm
    refine xw_getR (pc := 6) C dX3_slotAt_6 fl_X3_11 q2 ?_
    obtain ⟨v3, q4, hm⟩ := xbind hm
    refine xw_alen (pc := 9) C dX3_slotAt_9 q4 ?_
    refine xw_icmp_ge (pc := 10) (tgt := 22) C dX3_slotAt_10 (by decide) (fun q => ?_) (fun q => ?_)
    · replace hm := xif_t q hm
      refine xw_null (pc := 22) C dX3_slotAt_22 ?_
      obtain rfl := Option.some.inj hm
      exact xw_areturn (pc := 23) (v := none) C dX3_slotAt_23 rfl (Or.inl ⟨_, rfl⟩) hX
    · replace hm := xif_f q hm
      refine xw_aload_n (pc := 13) (i := 0) (x := x0) C dX3_slotAt_13 rfl rfl ?_
      obtain ⟨v5, q6, hm⟩ := xbind hm
      refine xw_getR (pc := 14) C dX3_slotAt_14 fl_X3_11 q6 ?_
      refine xw_iload_n (pc := 17) (i := 1) (x := x1) C dX3_slotAt_17 rfl rfl ?_
      obtain ⟨v7, q8, hm⟩ := xbind hm
      refine xw_aaload (pc := 18) C dX3_slotAt_18 q8 ?_
      refine xw_goto (pc := 19) (tgt := 23) C dX3_slotAt_19 (by decide) ?_
      obtain rfl := Option.some.inj hm
      exact xw_areturn (pc := 23) (v := v7) C dX3_slotAt_23 rfl (Or.inl ⟨_, rfl⟩) hX
set_option maxHeartbeats 4000000 in
set_option maxRecDepth 100000 in
theorem wX1_copyFrom {l : Launch} {n sl : Nat} {h : XH} {x0 : Nat} {x1 : Nat} {o : XH} (hm : fX1_copyFrom h x0 x1 = some o) : XM l yX1_copyFrom cX1_copyFrom 2 none 0 0 [.ref x0, .ref x1] h n sl none o n sl := by
  refine xm_of pnX1 [some (.ref x0), some (.ref x1)] 0 rfl (Nat.le_of_ble_eq_true rfl) ?_
  intro X hT C
  replace C : XOK X RX1 cX1_copyFrom 2 "copyFrom" none 0 0 := C
  obtain ⟨-, hN, hX⟩ := hT
  unfold fX1_copyFrom at hm
  refine xw_aload_n (pc := 0) (i := 0) (x := x0) C dX1_copyFrom_0 rfl rfl ?_
  refine xw_aload_n (pc := 1) (i := 1) (x := x1) C dX1_copyFrom_1 rfl rfl ?_
  obtain ⟨v1, q2, hm⟩ := xbind hm
  refine xw_getI (pc := 2) C dX1_copyFrom_2 fl_X1_9 q2 ?_
  obtain ⟨h3, q4, hm⟩ := xbind hm
  refine xw_put (pc := 5) C dX1_copyFrom_5 fl_X1_9 q4 (fun _ => rfl) (fun _ => rfl) ?_
  refine xw_aload_n (pc := 8) (i := 0) (x := x0) C dX1_copyFrom_8 rfl rfl ?_
  refine xw_aload_n (pc := 9) (i := 1) (x := x1) C dX1_copyFrom_9 rfl rfl ?_
  obtain ⟨v5, q6, hm⟩ := xbind hm
  refine xw_getI (pc := 10) C dX1_copyFrom_10 fl_X1_15 q6 ?_
  obtain ⟨h7, q8, hm⟩ := xbind hm
  refine xw_put (pc := 13) C dX1_copyFrom_13 fl_X1_15 q8 (fun _ => rfl) (fun _ => rfl) ?_
  refine xw_aload_n (pc := 16) (i := 0) (x := x0) C dX1_copyFrom_16 rfl rfl ?_
  refine xw_aload_n (pc := 17) (i := 1) (x := x1) C dX1_copyFrom_17 rfl rfl ?_
  obtain ⟨v9, q10, hm⟩ := xbind hm
  refine xw_getI (pc := 18) C dX1_copyFrom_18 fl_X1_18 q10 ?_
  obtain ⟨h11, q12, hm⟩ := xbind hm
  refine xw_put (pc := 21) C dX1_copyFrom_21 fl_X1_18 q12 (fun _ => rfl) (fun _ => rfl) ?_
  refine xw_aload_n (pc := 24) (i := 0) (x := x0) C dX1_copyFrom_24 rfl rfl ?_
  refine xw_aload_n (pc := 25) (i := 1) (x := x1) C dX1_copyFrom_25 rfl rfl ?_
  obtain ⟨v13, q14, hm⟩ := xbind hm
  refine xw_getI (pc := 26) C dX1_copyFrom_26 fl_X1_21 q14 ?_
  obtain ⟨h15, q16, hm⟩ := xbind hm
  refine xw_put (pc := 29) C dX1_copyFrom_29 fl_X1_21 q16 (fun _ => rfl) (fun _ => rfl) ?_
  obtain rfl := Option.some.inj hm
  exact xw_return (pc := 32) C dX1_copyFrom_32 rfl hX
set_option maxHeartbeats 4000000 in
set_option maxRecDepth 100000 in
theorem wX2_copyFrom {l : Launch} {n sl : Nat} {h : XH} {x0 : Nat} {x1 : Nat} {o : XH} (hm : fX2_copyFrom h x0 x1 = some o) : XM l yX2_copyFrom cX2_copyFrom 2 none 0 0 [.ref x0, .ref x1] h n sl none o n sl := by
  refine xm_of pnX2 [some (.ref x0), some (.ref x1)] 0 rfl (Nat.le_of_ble_eq_true rfl) ?_
  intro X hT C
  replace C : XOK X RX2 cX2_copyFrom 2 "copyFrom" none 0 0 := C
  obtain ⟨-, hN, hX⟩ := hT
  unfold fX2_copyFrom at hm
  refine xw_aload_n (pc := 0) (i := 0) (x := x0) C dX2_copyFrom_0 rfl rfl ?_
  refine xw_aload_n (pc := 1) (i := 1) (x := x1) C dX2_copyFrom_1 rfl rfl ?_
  obtain ⟨v1, q2, hm⟩ := xbind hm
  refine xw_getI (pc := 2) C dX2_copyFrom_2 fl_X2_15 q2 ?_
  obtain ⟨h3, q4, hm⟩ := xbind hm
  refine xw_put (pc := 5) C dX2_copyFrom_5 fl_X2_15 q4 (fun _ => rfl) (fun _ => rfl) ?_
  refine xw_aload_n (pc := 8) (i := 0) (x := x0) C dX2_copyFrom_8 rfl rfl ?_
  refine xw_aload_n (pc := 9) (i := 1) (x := x1) C dX2_copyFrom_9 rfl rfl ?_
  obtain ⟨v5, q6, hm⟩ := xbind hm
  refine xw_getI (pc := 10) C dX2_copyFrom_10 fl_X2_9 q6 ?_
  obtain ⟨h7, q8, hm⟩ := xbind hm
  refine xw_put (pc := 13) C dX2_copyFrom_13 fl_X2_9 q8 (fun _ => rfl) (fun _ => rfl) ?_
  obtain rfl := Option.some.inj hm
  exact xw_return (pc := 16) C dX2_copyFrom_16 rfl hX
def fX8_copyRow_P2 (X : XCtx) (x0 : Nat) (x1 : Nat) (n sl : Nat) (s : (XH × Int32)) : Prop := XW X 2 [some (.ref x0), some (.ref x1), some (.int s.2)] [] s.1 n sl
def fX8_copyRow_E2 (X : XCtx) (x0 : Nat) (x1 : Nat) (n sl : Nat) (e : XH) : Prop := XW X 26 [none, none, none] [] e n sl
set_option maxHeartbeats 4000000 in
set_option maxRecDepth 100000 in
theorem fX8_copyRow_B2_w {X : XCtx} (C : XOK X RX8 cX8_copyRow 3 "copyRow" none 0 0) {n sl : Nat} (hN : XN X n sl) {x0 : Nat} {x1 : Nat} (s : (XH × Int32)) (o : (XH × Int32) ⊕ XH) (hm : fX8_copyRow_B2 x0 x1 s = some o) (hc : ∀ s', o = .inl s' → fX8_copyRow_P2 X x0 x1 n sl s') (he : ∀ e', o = .inr e' → fX8_copyRow_E2 X x0 x1 n sl e') : fX8_copyRow_P2 X x0 x1 n sl s := by
  obtain ⟨h, x2⟩ := s
  show XW X 2 [some (.ref x0), some (.ref x1), some (.int x2)] [] h n sl
  replace hm : fX8_copyRow_b2 x0 x1 h x2 = some o := hm
  unfold fX8_copyRow_b2 at hm
  refine xw_iload_n (pc := 2) (i := 2) (x := x2) C dX8_copyRow_2 rfl rfl ?_
  refine xw_aload_n (pc := 3) (i := 0) (x := x0) C dX8_copyRow_3 rfl rfl ?_
  obtain ⟨v1, q2, hm⟩ := xbind hm
  refine xw_alen (pc := 4) C dX8_copyRow_4 q2 ?_
  refine xw_icmp_ge (pc := 5) (tgt := 26) C dX8_copyRow_5 (by decide) (fun q => ?_) (fun q => ?_)
  · replace hm := xif_t q hm
    obtain rfl := Option.some.inj hm
    refine xw_sub (pc := 26) _ ?_ (he _ rfl)
    exact ⟨Or.inl rfl, Or.inl rfl, Or.inl rfl, trivial⟩
  · replace hm := xif_f q hm
    refine xw_iload_n (pc := 8) (i := 2) (x := x2) C dX8_copyRow_8 rfl rfl ?_
    refine xw_aload_n (pc := 9) (i := 1) (x := x1) C dX8_copyRow_9 rfl rfl ?_
    obtain ⟨v3, q4, hm⟩ := xbind hm
    refine xw_alen (pc := 10) C dX8_copyRow_10 q4 ?_
    refine xw_icmp_ge (pc := 11) (tgt := 26) C dX8_copyRow_11 (by decide) (fun q => ?_) (fun q => ?_)
    · replace hm := xif_t q hm
      obtain rfl := Option.some.inj hm
      refine xw_sub (pc := 26) _ ?_ (he _ rfl)
      exact ⟨Or.inl rfl, Or.inl rfl, Or.inl rfl, trivial⟩
    · replace hm := xif_f q hm
      refine xw_aload_n (pc := 14) (i := 1) (x := x1) C dX8_copyRow_14 rfl rfl ?_
      refine xw_iload_n (pc := 15) (i := 2) (x := x2) C dX8_copyRow_15 rfl rfl ?_
      refine xw_aload_n (pc := 16) (i := 0) (x := x0) C dX8_copyRow_16 rfl rfl ?_
      refine xw_iload_n (pc := 17) (i := 2) (x := x2) C dX8_copyRow_17 rfl rfl ?_
      obtain ⟨v5, q6, hm⟩ := xbind hm
      refine xw_iaload (pc := 18) C dX8_copyRow_18 q6 ?_
      obtain ⟨h7, q8, hm⟩ := xbind hm
      refine xw_iastore (pc := 19) C dX8_copyRow_19 q8 ?_
      refine xw_iinc (pc := 20) (i := 2) (x := x2) (v := (x2 + (1 : Int32))) (L' := [some (.ref x0), some (.ref x1), some (.int (x2 + (1 : Int32)))]) C dX8_copyRow_20 rfl (congrArg (HAdd.hAdd _) xk_i_1) (Nat.le_of_ble_eq_true rfl) rfl ?_
      refine xw_goto (pc := 23) (tgt := 2) C dX8_copyRow_23 (by decide) ?_
      obtain rfl := Option.some.inj hm
      refine xw_sub (pc := 2) _ ?_ (hc _ rfl)
      exact ⟨Or.inr rfl, Or.inr rfl, Or.inr rfl, trivial⟩
set_option maxHeartbeats 4000000 in
set_option maxRecDepth 100000 in
theorem wX8_copyRow {l : Launch} {n sl : Nat} {h : XH} {x0 : Nat} {x1 : Nat} {o : XH} (hm : fX8_copyRow h x0 x1 = some o) : XM l yX8_copyRow cX8_copyRow 3 none 0 0 [.ref x0, .ref x1] h n sl none o n sl := by
  refine xm_of pnX8 [some (.ref x0), some (.ref x1), none] 1 rfl (Nat.le_of_ble_eq_true rfl) ?_
  intro X hT C
  replace C : XOK X RX8 cX8_copyRow 3 "copyRow" none 0 0 := C
  obtain ⟨-, hN, hX⟩ := hT
  unfold fX8_copyRow at hm
  refine xw_iconst (pc := 0) (v := 0) C dX8_copyRow_0 xk_i_0 ?_
  refine xw_istore_n (pc := 1) (i := 2) (x := (0 : Int32)) (L' := [some (.ref x0), some (.ref x1), some (.int (0 : Int32))]) C dX8_copyRow_1 rfl (Nat.le_of_ble_eq_true rfl) rfl ?_
  obtain ⟨e9, q10, hm⟩ := xbind hm
  refine xw_sub (pc := 2) [some (.ref x0), some (.ref x1), some (.int (0 : Int32))] ⟨Or.inr rfl, Or.inr rfl, Or.inr rfl, trivial⟩ ?_
  refine xloop_walk (fX8_copyRow_B2 x0 x1) (fX8_copyRow_P2 X x0 x1 n sl) (fX8_copyRow_E2 X x0 x1 n sl) (fun s' o' => fX8_copyRow_B2_w C hN s' o') 5000 (h, (0 : Int32)) e9 q10 ?_
  show XW X 26 [none, none, none] [] e9 n sl
  obtain rfl := Option.some.inj hm
  exact xw_return (pc := 26) C dX8_copyRow_26 rfl hX
set_option maxHeartbeats 4000000 in
set_option maxRecDepth 100000 in
theorem wX4_copyFrom {l : Launch} {n sl : Nat} {h : XH} {x0 : Nat} {x1 : Nat} {o : XH} (hm : fX4_copyFrom h x0 x1 = some o) : XM l yX4_copyFrom cX4_copyFrom 2 none 1 22 [.ref x0, .ref x1] h n sl none o n sl := by
  refine xm_of pnX4 [some (.ref x0), some (.ref x1)] 0 rfl (Nat.le_of_ble_eq_true rfl) ?_
  intro X hT C
  replace C : XOK X RX4 cX4_copyFrom 2 "copyFrom" none 1 22 := C
  obtain ⟨-, hN, hX⟩ := hT
  unfold fX4_copyFrom at hm
  refine xw_aload_n (pc := 0) (i := 1) (x := x1) C dX4_copyFrom_0 rfl rfl ?_
  obtain ⟨v1, q2, hm⟩ := xbind hm
  refine xw_getR (pc := 1) C dX4_copyFrom_1 fl_X4_9 q2 ?_
  refine xw_aload_n (pc := 4) (i := 0) (x := x0) C dX4_copyFrom_4 rfl rfl ?_
  obtain ⟨v3, q4, hm⟩ := xbind hm
  refine xw_getR (pc := 5) C dX4_copyFrom_5 fl_X4_9 q4 ?_
  obtain ⟨h5, q6, hm⟩ := xbind hm
  refine xw_callSN0 (pc := 8) (As := [.ref v1, .ref v3]) (st := []) C dX4_copyFrom_8 (wX8_copyRow q6) dd_X8_copyRow lk_X4_22 ds_X8_copyRow rfl (Nat.le_of_ble_eq_true rfl) (Nat.le_of_ble_eq_true rfl) (Nat.le_of_ble_eq_true rfl) ⟨Nat.le_refl _, Nat.le_refl _⟩ hN ?_
  refine xw_aload_n (pc := 11) (i := 1) (x := x1) C dX4_copyFrom_11 rfl rfl ?_
  obtain ⟨v7, q8, hm⟩ := xbind hm
  refine xw_getR (pc := 12) C dX4_copyFrom_12 fl_X4_15 q8 ?_
  refine xw_aload_n (pc := 15) (i := 0) (x := x0) C dX4_copyFrom_15 rfl rfl ?_
  obtain ⟨v9, q10, hm⟩ := xbind hm
  refine xw_getR (pc := 16) C dX4_copyFrom_16 fl_X4_15 q10 ?_
  obtain ⟨h11, q12, hm⟩ := xbind hm
  refine xw_callSN0 (pc := 19) (As := [.ref v7, .ref v9]) (st := []) C dX4_copyFrom_19 (wX8_copyRow q12) dd_X8_copyRow lk_X4_22 ds_X8_copyRow rfl (Nat.le_of_ble_eq_true rfl) (Nat.le_of_ble_eq_true rfl) (Nat.le_of_ble_eq_true rfl) ⟨Nat.le_refl _, Nat.le_refl _⟩ hN ?_
  refine xw_aload_n (pc := 22) (i := 0) (x := x0) C dX4_copyFrom_22 rfl rfl ?_
  refine xw_aload_n (pc := 23) (i := 1) (x := x1) C dX4_copyFrom_23 rfl rfl ?_
  obtain ⟨v13, q14, hm⟩ := xbind hm
  refine xw_getI (pc := 24) C dX4_copyFrom_24 fl_X4_26 q14 ?_
  obtain ⟨h15, q16, hm⟩ := xbind hm
  refine xw_put (pc := 27) C dX4_copyFrom_27 fl_X4_26 q16 (fun _ => rfl) (fun _ => rfl) ?_
  refine xw_aload_n (pc := 30) (i := 0) (x := x0) C dX4_copyFrom_30 rfl rfl ?_
  refine xw_aload_n (pc := 31) (i := 1) (x := x1) C dX4_copyFrom_31 rfl rfl ?_
  obtain ⟨v17, q18, hm⟩ := xbind hm
  refine xw_getI (pc := 32) C dX4_copyFrom_32 fl_X4_18 q18 ?_
  obtain ⟨h19, q20, hm⟩ := xbind hm
  refine xw_put (pc := 35) C dX4_copyFrom_35 fl_X4_18 q20 (fun _ => rfl) (fun _ => rfl) ?_
  obtain rfl := Option.some.inj hm
  exact xw_return (pc := 38) C dX4_copyFrom_38 rfl hX
set_option maxHeartbeats 4000000 in
set_option maxRecDepth 100000 in
theorem wX6_copyFrom {l : Launch} {n sl : Nat} {h : XH} {x0 : Nat} {x1 : Nat} {o : XH} (hm : fX6_copyFrom h x0 x1 = some o) : XM l yX6_copyFrom cX6_copyFrom 2 none 1 22 [.ref x0, .ref x1] h n sl none o n sl := by
  refine xm_of pnX6 [some (.ref x0), some (.ref x1)] 0 rfl (Nat.le_of_ble_eq_true rfl) ?_
  intro X hT C
  replace C : XOK X RX6 cX6_copyFrom 2 "copyFrom" none 1 22 := C
  obtain ⟨-, hN, hX⟩ := hT
  unfold fX6_copyFrom at hm
  refine xw_aload_n (pc := 0) (i := 1) (x := x1) C dX6_copyFrom_0 rfl rfl ?_
  obtain ⟨v1, q2, hm⟩ := xbind hm
  refine xw_getR (pc := 1) C dX6_copyFrom_1 fl_X6_9 q2 ?_
  refine xw_aload_n (pc := 4) (i := 0) (x := x0) C dX6_copyFrom_4 rfl rfl ?_
  obtain ⟨v3, q4, hm⟩ := xbind hm
  refine xw_getR (pc := 5) C dX6_copyFrom_5 fl_X6_9 q4 ?_
  obtain ⟨h5, q6, hm⟩ := xbind hm
  refine xw_callSN0 (pc := 8) (As := [.ref v1, .ref v3]) (st := []) C dX6_copyFrom_8 (wX8_copyRow q6) dd_X8_copyRow lk_X6_29 ds_X8_copyRow rfl (Nat.le_of_ble_eq_true rfl) (Nat.le_of_ble_eq_true rfl) (Nat.le_of_ble_eq_true rfl) ⟨Nat.le_refl _, Nat.le_refl _⟩ hN ?_
  refine xw_aload_n (pc := 11) (i := 1) (x := x1) C dX6_copyFrom_11 rfl rfl ?_
  obtain ⟨v7, q8, hm⟩ := xbind hm
  refine xw_getR (pc := 12) C dX6_copyFrom_12 fl_X6_15 q8 ?_
  refine xw_aload_n (pc := 15) (i := 0) (x := x0) C dX6_copyFrom_15 rfl rfl ?_
  obtain ⟨v9, q10, hm⟩ := xbind hm
  refine xw_getR (pc := 16) C dX6_copyFrom_16 fl_X6_15 q10 ?_
  obtain ⟨h11, q12, hm⟩ := xbind hm
  refine xw_callSN0 (pc := 19) (As := [.ref v7, .ref v9]) (st := []) C dX6_copyFrom_19 (wX8_copyRow q12) dd_X8_copyRow lk_X6_29 ds_X8_copyRow rfl (Nat.le_of_ble_eq_true rfl) (Nat.le_of_ble_eq_true rfl) (Nat.le_of_ble_eq_true rfl) ⟨Nat.le_refl _, Nat.le_refl _⟩ hN ?_
  refine xw_aload_n (pc := 22) (i := 1) (x := x1) C dX6_copyFrom_22 rfl rfl ?_
  obtain ⟨v13, q14, hm⟩ := xbind hm
  refine xw_getR (pc := 23) C dX6_copyFrom_23 fl_X6_18 q14 ?_
  refine xw_aload_n (pc := 26) (i := 0) (x := x0) C dX6_copyFrom_26 rfl rfl ?_
  obtain ⟨v15, q16, hm⟩ := xbind hm
  refine xw_getR (pc := 27) C dX6_copyFrom_27 fl_X6_18 q16 ?_
  obtain ⟨h17, q18, hm⟩ := xbind hm
  refine xw_callSN0 (pc := 30) (As := [.ref v13, .ref v15]) (st := []) C dX6_copyFrom_30 (wX8_copyRow q18) dd_X8_copyRow lk_X6_29 ds_X8_copyRow rfl (Nat.le_of_ble_eq_true rfl) (Nat.le_of_ble_eq_true rfl) (Nat.le_of_ble_eq_true rfl) ⟨Nat.le_refl _, Nat.le_refl _⟩ hN ?_
  refine xw_aload_n (pc := 33) (i := 0) (x := x0) C dX6_copyFrom_33 rfl rfl ?_
  refine xw_aload_n (pc := 34) (i := 1) (x := x1) C dX6_copyFrom_34 rfl rfl ?_
  obtain ⟨v19, q20, hm⟩ := xbind hm
  refine xw_getI (pc := 35) C dX6_copyFrom_35 fl_X6_21 q20 ?_
  obtain ⟨h21, q22, hm⟩ := xbind hm
  refine xw_put (pc := 38) C dX6_copyFrom_38 fl_X6_21 q22 (fun _ => rfl) (fun _ => rfl) ?_
  refine xw_aload_n (pc := 41) (i := 0) (x := x0) C dX6_copyFrom_41 rfl rfl ?_
  refine xw_aload_n (pc := 42) (i := 1) (x := x1) C dX6_copyFrom_42 rfl rfl ?_
  obtain ⟨v23, q24, hm⟩ := xbind hm
  refine xw_getI (pc := 43) C dX6_copyFrom_43 fl_X6_33 q24 ?_
  obtain ⟨h25, q26, hm⟩ := xbind hm
  refine xw_put (pc := 46) C dX6_copyFrom_46 fl_X6_33 q26 (fun _ => rfl) (fun _ => rfl) ?_
  refine xw_aload_n (pc := 49) (i := 0) (x := x0) C dX6_copyFrom_49 rfl rfl ?_
  refine xw_aload_n (pc := 50) (i := 1) (x := x1) C dX6_copyFrom_50 rfl rfl ?_
  obtain ⟨v27, q28, hm⟩ := xbind hm
  refine xw_getI (pc := 51) C dX6_copyFrom_51 fl_X6_36 q28 ?_
  obtain ⟨h29, q30, hm⟩ := xbind hm
  refine xw_put (pc := 54) C dX6_copyFrom_54 fl_X6_36 q30 (fun _ => rfl) (fun _ => rfl) ?_
  refine xw_aload_n (pc := 57) (i := 0) (x := x0) C dX6_copyFrom_57 rfl rfl ?_
  refine xw_aload_n (pc := 58) (i := 1) (x := x1) C dX6_copyFrom_58 rfl rfl ?_
  obtain ⟨v31, q32, hm⟩ := xbind hm
  refine xw_getI (pc := 59) C dX6_copyFrom_59 fl_X6_39 q32 ?_
  obtain ⟨h33, q34, hm⟩ := xbind hm
  refine xw_put (pc := 62) C dX6_copyFrom_62 fl_X6_39 q34 (fun _ => rfl) (fun _ => rfl) ?_
  obtain rfl := Option.some.inj hm
  exact xw_return (pc := 65) C dX6_copyFrom_65 rfl hX
set_option maxHeartbeats 4000000 in
set_option maxRecDepth 100000 in
theorem wX5_copyFrom {l : Launch} {n sl : Nat} {h : XH} {x0 : Nat} {x1 : Nat} {o : XH} (hm : fX5_copyFrom h x0 x1 = some o) : XM l yX5_copyFrom cX5_copyFrom 2 none 2 43 [.ref x0, .ref x1] h n sl none o n sl := by
  refine xm_of pnX5 [some (.ref x0), some (.ref x1)] 0 rfl (Nat.le_of_ble_eq_true rfl) ?_
  intro X hT C
  replace C : XOK X RX5 cX5_copyFrom 2 "copyFrom" none 2 43 := C
  obtain ⟨-, hN, hX⟩ := hT
  unfold fX5_copyFrom at hm
  refine xw_aload_n (pc := 0) (i := 0) (x := x0) C dX5_copyFrom_0 rfl rfl ?_
  obtain ⟨v1, q2, hm⟩ := xbind hm
  refine xw_getR (pc := 1) C dX5_copyFrom_1 fl_X5_10 q2 ?_
  refine xw_aload_n (pc := 4) (i := 1) (x := x1) C dX5_copyFrom_4 rfl rfl ?_
  obtain ⟨v3, q4, hm⟩ := xbind hm
  refine xw_getR (pc := 5) C dX5_copyFrom_5 fl_X5_10 q4 ?_
  obtain ⟨_, q5, hm⟩ := xbind hm
  obtain ⟨h6, q7, hm⟩ := xbind hm
  refine xw_callV0 (pc := 8) (As := [.ref v3]) (st := []) C dX5_copyFrom_8 (wX6_copyFrom q7) dd_X6_copyFrom lk_X5_37 dv_X6_copyFrom (xco_spec q5) rfl (Nat.le_of_ble_eq_true rfl) (Nat.le_of_ble_eq_true rfl) (Nat.le_of_ble_eq_true rfl) ⟨Nat.le_refl _, Nat.le_refl _⟩ hN ?_
  refine xw_aload_n (pc := 11) (i := 0) (x := x0) C dX5_copyFrom_11 rfl rfl ?_
  obtain ⟨v8, q9, hm⟩ := xbind hm
  refine xw_getR (pc := 12) C dX5_copyFrom_12 fl_X5_19 q9 ?_
  refine xw_aload_n (pc := 15) (i := 1) (x := x1) C dX5_copyFrom_15 rfl rfl ?_
  obtain ⟨v10, q11, hm⟩ := xbind hm
  refine xw_getR (pc := 16) C dX5_copyFrom_16 fl_X5_19 q11 ?_
  obtain ⟨_, q12, hm⟩ := xbind hm
  obtain ⟨h13, q14, hm⟩ := xbind hm
  refine xw_callV0 (pc := 19) (As := [.ref v10]) (st := []) C dX5_copyFrom_19 (wX2_copyFrom q14) dd_X2_copyFrom lk_X5_41 dv_X2_copyFrom (xco_spec q12) rfl (Nat.le_of_ble_eq_true rfl) (Nat.le_of_ble_eq_true rfl) (Nat.le_of_ble_eq_true rfl) ⟨Nat.le_refl _, Nat.le_refl _⟩ hN ?_
  refine xw_aload_n (pc := 22) (i := 0) (x := x0) C dX5_copyFrom_22 rfl rfl ?_
  obtain ⟨v15, q16, hm⟩ := xbind hm
  refine xw_getR (pc := 23) C dX5_copyFrom_23 fl_X5_26 q16 ?_
  refine xw_aload_n (pc := 26) (i := 1) (x := x1) C dX5_copyFrom_26 rfl rfl ?_
  obtain ⟨v17, q18, hm⟩ := xbind hm
  refine xw_getR (pc := 27) C dX5_copyFrom_27 fl_X5_26 q18 ?_
  obtain ⟨_, q19, hm⟩ := xbind hm
  obtain ⟨h20, q21, hm⟩ := xbind hm
  refine xw_callV0 (pc := 30) (As := [.ref v17]) (st := []) C dX5_copyFrom_30 (wX4_copyFrom q21) dd_X4_copyFrom lk_X5_44 dv_X4_copyFrom (xco_spec q19) rfl (Nat.le_of_ble_eq_true rfl) (Nat.le_of_ble_eq_true rfl) (Nat.le_of_ble_eq_true rfl) ⟨Nat.le_refl _, Nat.le_refl _⟩ hN ?_
  refine xw_aload_n (pc := 33) (i := 0) (x := x0) C dX5_copyFrom_33 rfl rfl ?_
  obtain ⟨v22, q23, hm⟩ := xbind hm
  refine xw_getR (pc := 34) C dX5_copyFrom_34 fl_X5_33 q23 ?_
  refine xw_aload_n (pc := 37) (i := 1) (x := x1) C dX5_copyFrom_37 rfl rfl ?_
  obtain ⟨v24, q25, hm⟩ := xbind hm
  refine xw_getR (pc := 38) C dX5_copyFrom_38 fl_X5_33 q25 ?_
  obtain ⟨_, q26, hm⟩ := xbind hm
  obtain ⟨h27, q28, hm⟩ := xbind hm
  refine xw_callV0 (pc := 41) (As := [.ref v24]) (st := []) C dX5_copyFrom_41 (wX1_copyFrom q28) dd_X1_copyFrom lk_X5_47 dv_X1_copyFrom (xco_spec q26) rfl (Nat.le_of_ble_eq_true rfl) (Nat.le_of_ble_eq_true rfl) (Nat.le_of_ble_eq_true rfl) ⟨Nat.le_refl _, Nat.le_refl _⟩ hN ?_
  obtain rfl := Option.some.inj hm
  exact xw_return (pc := 44) C dX5_copyFrom_44 rfl hX
set_option maxHeartbeats 4000000 in
set_option maxRecDepth 100000 in
theorem wX3_remember {l : Launch} {n sl : Nat} {h : XH} {x0 : Nat} {x1 : Nat} {o : XH} (hm : fX3_remember h x0 x1 = some o) : XM l yX3_remember cX3_remember 3 none 3 64 [.ref x0, .ref x1] h n sl none o n sl := by
  refine xm_of pnX3 [some (.ref x0), some (.ref x1), none] 1 rfl (Nat.le_of_ble_eq_true rfl) ?_
  intro X hT C
  replace C : XOK X RX3 cX3_remember 3 "remember" none 3 64 := C
  obtain ⟨-, hN, hX⟩ := hT
  unfold fX3_remember at hm
  refine xw_aload_n (pc := 0) (i := 0) (x := x0) C dX3_remember_0 rfl rfl ?_
  refine xw_aload_n (pc := 1) (i := 0) (x := x0) C dX3_remember_1 rfl rfl ?_
  obtain ⟨v1, q2, hm⟩ := xbind hm
  refine xw_getI (pc := 2) C dX3_remember_2 fl_X3_18 q2 ?_
  obtain ⟨_, q3, hm⟩ := xbind hm
  obtain ⟨v4, q5, hm⟩ := xbind hm
  refine xw_callV1 (pc := 5) (As := [.int v1]) (st := []) C dX3_remember_5 (wX3_slotAt q5) dd_X3_slotAt lk_X3_22 dv_X3_slotAt (xco_spec q3) rfl (Nat.le_of_ble_eq_true rfl) (Nat.le_of_ble_eq_true rfl) (Nat.le_of_ble_eq_true rfl) ⟨Nat.le_refl _, Nat.le_refl _⟩ hN ?_
  refine xw_astore_nQ (pc := 8) (i := 2) (x := v4) (L' := [some (.ref x0), some (.ref x1), some (va_rf v4)]) C dX3_remember_8 rfl (Nat.le_of_ble_eq_true rfl) rfl ?_
  refine xw_aload_nQ (pc := 9) (i := 2) (x := v4) C dX3_remember_9 rfl rfl ?_
  refine xw_ifnonnull (pc := 10) (x := v4) (tgt := 14) C dX3_remember_10 (by decide) (fun k6 q => ?_) (fun q => ?_)
  · replace hm := xqc_s q hm
    subst q
    refine xw_aload_n (pc := 14) (i := 2) (x := k6) C dX3_remember_14 rfl rfl ?_
    refine xw_aload_n (pc := 15) (i := 1) (x := x1) C dX3_remember_15 rfl rfl ?_
    obtain ⟨_, q7, hm⟩ := xbind hm
    obtain ⟨h8, q9, hm⟩ := xbind hm
    refine xw_callV0 (pc := 16) (As := [.ref x1]) (st := []) C dX3_remember_16 (wX5_copyFrom q9) dd_X5_copyFrom lk_X3_26 dv_X5_copyFrom (xco_spec q7) rfl (Nat.le_of_ble_eq_true rfl) (Nat.le_of_ble_eq_true rfl) (Nat.le_of_ble_eq_true rfl) ⟨Nat.le_refl _, Nat.le_refl _⟩ hN ?_
    refine xw_aload_n (pc := 19) (i := 0) (x := x0) C dX3_remember_19 rfl rfl ?_
    refine xw_aload_n (pc := 20) (i := 0) (x := x0) C dX3_remember_20 rfl rfl ?_
    obtain ⟨v10, q11, hm⟩ := xbind hm
    refine xw_getI (pc := 21) C dX3_remember_21 fl_X3_18 q11 ?_
    refine xw_iconst (pc := 24) (v := 1) C dX3_remember_24 xk_i_1 ?_
    refine xw_iadd (pc := 25) C dX3_remember_25 ?_
    refine xw_bipush (pc := 26) (v := 8) C dX3_remember_26 xk_b_8 ?_
    obtain ⟨v12, q13, hm⟩ := xbind hm
    refine xw_callSN1 (pc := 28) (As := [.int (v10 + (1 : Int32)), .int (8 : Int32)]) (st := [.ref x0]) C dX3_remember_28 (wX8_mod q13) dd_X8_mod lk_X3_30 ds_X8_mod rfl (Nat.le_of_ble_eq_true rfl) (Nat.le_of_ble_eq_true rfl) (Nat.le_of_ble_eq_true rfl) ⟨Nat.le_refl _, Nat.le_refl _⟩ hN ?_
    obtain ⟨h14, q15, hm⟩ := xbind hm
    refine xw_put (pc := 31) C dX3_remember_31 fl_X3_18 q15 (fun _ => rfl) (fun _ => rfl) ?_
    refine xw_aload_n (pc := 34) (i := 0) (x := x0) C dX3_remember_34 rfl rfl ?_
    obtain ⟨v16, q17, hm⟩ := xbind hm
    refine xw_getI (pc := 35) C dX3_remember_35 fl_X3_34 q17 ?_
    refine xw_bipush (pc := 38) (v := 8) C dX3_remember_38 xk_b_8 ?_
    refine xw_icmp_ge (pc := 40) (tgt := 53) C dX3_remember_40 (by decide) (fun q => ?_) (fun q => ?_)
    · replace hm := xif_t q hm
      obtain rfl := Option.some.inj hm
      exact xw_return (pc := 53) C dX3_remember_53 rfl hX
    · replace hm := xif_f q hm
      refine xw_aload_n (pc := 43) (i := 0) (x := x0) C dX3_remember_43 rfl rfl ?_
      refine xw_dup (pc := 44) C dX3_remember_44 rfl ?_
      obtain ⟨v18, q19, hm⟩ := xbind hm
      refine xw_getI (pc := 45) C dX3_remember_45 fl_X3_34 q19 ?_
      refine xw_iconst (pc := 48) (v := 1) C dX3_remember_48 xk_i_1 ?_
      refine xw_iadd (pc := 49) C dX3_remember_49 ?_
      obtain ⟨h20, q21, hm⟩ := xbind hm
      refine xw_put (pc := 50) C dX3_remember_50 fl_X3_34 q21 (fun _ => rfl) (fun _ => rfl) ?_
      obtain rfl := Option.some.inj hm
      exact xw_return (pc := 53) C dX3_remember_53 rfl hX
  · replace hm := xqc_n q hm
    obtain rfl := Option.some.inj hm
    exact xw_return (pc := 13) C dX3_remember_13 rfl hX
set_option maxHeartbeats 4000000 in
set_option maxRecDepth 100000 in
theorem wX8_setFlash {l : Launch} {n sl : Nat} {h : XH} {x0 : Nat} {x1 : Int32} {x2 : Int32} {o : Int32 × XH} (hm : fX8_setFlash h x0 x1 x2 = some o) : XM l yX8_setFlash cX8_setFlash 3 (some .int) 4 86 [.ref x0, .int x1, .int x2] h n sl (some (.int o.1)) o.2 n sl := by
  refine xm_of pnX8 [some (.ref x0), some (.int x1), some (.int x2)] 0 rfl (Nat.le_of_ble_eq_true rfl) ?_
  intro X hT C
  replace C : XOK X RX8 cX8_setFlash 3 "setFlash" (some .int) 4 86 := C
  obtain ⟨-, hN, hX⟩ := hT
  unfold fX8_setFlash at hm
  refine xw_iload_n (pc := 0) (i := 1) (x := x1) C dX8_setFlash_0 rfl rfl ?_
  obtain ⟨v1, q2, hm⟩ := xbind hm
  refine xw_callS1 (pc := 1) (As := [.int x1]) (st := []) C dX8_setFlash_1 (wX8_isTick q2) dd_X8_isTick lk_X8_99 ds_X8_isTick rfl (Nat.le_of_ble_eq_true rfl) (Nat.le_of_ble_eq_true rfl) (Nat.le_of_ble_eq_true rfl) ⟨Nat.le_refl _, Nat.le_refl _⟩ hN ?_
  refine xw_if_eqZ (pc := 4) (b := v1) (tgt := 18) C dX8_setFlash_4 (by decide) (fun q => ?_) (fun q => ?_)
  · replace hm := xif_f q hm
    refine xw_sipush (pc := 18) (v := -1001) C dX8_setFlash_18 xk_s_m1001 ?_
    obtain rfl := Option.some.inj hm
    exact xw_ireturn (pc := 21) C dX8_setFlash_21 rfl hX
  · replace hm := xif_t q hm
    refine xw_iload_n (pc := 7) (i := 2) (x := x2) C dX8_setFlash_7 rfl rfl ?_
    refine xw_iconst (pc := 8) (v := 1) C dX8_setFlash_8 xk_i_1 ?_
    refine xw_sipush (pc := 9) (v := 500) C dX8_setFlash_9 xk_s_500 ?_
    obtain ⟨v3, q4, hm⟩ := xbind hm
    refine xw_callS1 (pc := 12) (As := [.int x2, .int (1 : Int32), .int (500 : Int32)]) (st := []) C dX8_setFlash_12 (wX8_within q4) dd_X8_within lk_X8_44 ds_X8_within rfl (Nat.le_of_ble_eq_true rfl) (Nat.le_of_ble_eq_true rfl) (Nat.le_of_ble_eq_true rfl) ⟨Nat.le_refl _, Nat.le_refl _⟩ hN ?_
    refine xw_if_neZ (pc := 15) (b := v3) (tgt := 22) C dX8_setFlash_15 (by decide) (fun q => ?_) (fun q => ?_)
    · replace hm := xif_t q hm
      refine xw_aload_n (pc := 22) (i := 0) (x := x0) C dX8_setFlash_22 rfl rfl ?_
      obtain ⟨v5, q6, hm⟩ := xbind hm
      refine xw_getR (pc := 23) C dX8_setFlash_23 fl_X8_19 q6 ?_
      refine xw_aload_n (pc := 26) (i := 0) (x := x0) C dX8_setFlash_26 rfl rfl ?_
      obtain ⟨v7, q8, hm⟩ := xbind hm
      refine xw_getR (pc := 27) C dX8_setFlash_27 fl_X8_10 q8 ?_
      obtain ⟨_, q9, hm⟩ := xbind hm
      obtain ⟨h10, q11, hm⟩ := xbind hm
      refine xw_callV0 (pc := 30) (As := [.ref v7]) (st := []) C dX8_setFlash_30 (wX3_remember q11) dd_X3_remember lk_X8_63 dv_X3_remember (xco_spec q9) rfl (Nat.le_of_ble_eq_true rfl) (Nat.le_of_ble_eq_true rfl) (Nat.le_of_ble_eq_true rfl) ⟨Nat.le_refl _, Nat.le_refl _⟩ hN ?_
      refine xw_aload_n (pc := 33) (i := 0) (x := x0) C dX8_setFlash_33 rfl rfl ?_
      obtain ⟨v12, q13, hm⟩ := xbind hm
      refine xw_getR (pc := 34) C dX8_setFlash_34 fl_X8_10 q13 ?_
      obtain ⟨v14, q15, hm⟩ := xbind hm
      refine xw_getR (pc := 37) C dX8_setFlash_37 fl_X8_125 q15 ?_
      refine xw_iload_n (pc := 40) (i := 1) (x := x1) C dX8_setFlash_40 rfl rfl ?_
      obtain ⟨h16, q17, hm⟩ := xbind hm
      refine xw_put (pc := 41) C dX8_setFlash_41 fl_X8_129 q17 (fun _ => rfl) (fun _ => rfl) ?_
      refine xw_aload_n (pc := 44) (i := 0) (x := x0) C dX8_setFlash_44 rfl rfl ?_
      obtain ⟨v18, q19, hm⟩ := xbind hm
      refine xw_getR (pc := 45) C dX8_setFlash_45 fl_X8_10 q19 ?_
      obtain ⟨v20, q21, hm⟩ := xbind hm
      refine xw_getR (pc := 48) C dX8_setFlash_48 fl_X8_125 q21 ?_
      refine xw_iload_n (pc := 51) (i := 2) (x := x2) C dX8_setFlash_51 rfl rfl ?_
      obtain ⟨h22, q23, hm⟩ := xbind hm
      refine xw_put (pc := 52) C dX8_setFlash_52 fl_X8_134 q23 (fun _ => rfl) (fun _ => rfl) ?_
      refine xw_aload_n (pc := 55) (i := 0) (x := x0) C dX8_setFlash_55 rfl rfl ?_
      obtain ⟨v24, q25, hm⟩ := xbind hm
      refine xw_getR (pc := 56) C dX8_setFlash_56 fl_X8_10 q25 ?_
      obtain ⟨v26, q27, hm⟩ := xbind hm
      refine xw_getR (pc := 59) C dX8_setFlash_59 fl_X8_125 q27 ?_
      obtain ⟨_, q28, hm⟩ := xbind hm
      obtain ⟨v29, q30, hm⟩ := xbind hm
      refine xw_callV1 (pc := 62) (As := []) (st := []) C dX8_setFlash_62 (wX2_number q30) dd_X2_number lk_X8_137 dv_X2_number (xco_spec q28) rfl (Nat.le_of_ble_eq_true rfl) (Nat.le_of_ble_eq_true rfl) (Nat.le_of_ble_eq_true rfl) ⟨Nat.le_refl _, Nat.le_refl _⟩ hN ?_
      obtain rfl := Option.some.inj hm
      exact xw_ireturn (pc := 65) C dX8_setFlash_65 rfl hX
    · replace hm := xif_f q hm
      refine xw_sipush (pc := 18) (v := -1001) C dX8_setFlash_18 xk_s_m1001 ?_
      obtain rfl := Option.some.inj hm
      exact xw_ireturn (pc := 21) C dX8_setFlash_21 rfl hX
set_option maxHeartbeats 4000000 in
set_option maxRecDepth 100000 in
theorem wX8_put {l : Launch} {n sl : Nat} {h : XH} {x0 : Nat} {x1 : Int32} {x2 : Int32} {o : XH} (hm : fX8_put h x0 x1 x2 = some o) : XM l yX8_put cX8_put 3 none 0 0 [.ref x0, .int x1, .int x2] h n sl none o n sl := by
  refine xm_of pnX8 [some (.ref x0), some (.int x1), some (.int x2)] 0 rfl (Nat.le_of_ble_eq_true rfl) ?_
  intro X hT C
  replace C : XOK X RX8 cX8_put 3 "put" none 0 0 := C
  obtain ⟨-, hN, hX⟩ := hT
  unfold fX8_put at hm
  refine xw_iload_n (pc := 0) (i := 1) (x := x1) C dX8_put_0 rfl rfl ?_
  refine xw_if_lt (pc := 1) (tgt := 14) C dX8_put_1 (by decide) (fun q => ?_) (fun q => ?_)
  · replace hm := xif_t q hm
    obtain rfl := Option.some.inj hm
    exact xw_return (pc := 14) C dX8_put_14 rfl hX
  · replace hm := xif_f q hm
    refine xw_iload_n (pc := 4) (i := 1) (x := x1) C dX8_put_4 rfl rfl ?_
    refine xw_aload_n (pc := 5) (i := 0) (x := x0) C dX8_put_5 rfl rfl ?_
    obtain ⟨v1, q2, hm⟩ := xbind hm
    refine xw_alen (pc := 6) C dX8_put_6 q2 ?_
    refine xw_icmp_ge (pc := 7) (tgt := 14) C dX8_put_7 (by decide) (fun q => ?_) (fun q => ?_)
    · replace hm := xif_t q hm
      obtain rfl := Option.some.inj hm
      exact xw_return (pc := 14) C dX8_put_14 rfl hX
    · replace hm := xif_f q hm
      refine xw_aload_n (pc := 10) (i := 0) (x := x0) C dX8_put_10 rfl rfl ?_
      refine xw_iload_n (pc := 11) (i := 1) (x := x1) C dX8_put_11 rfl rfl ?_
      refine xw_iload_n (pc := 12) (i := 2) (x := x2) C dX8_put_12 rfl rfl ?_
      obtain ⟨h3, q4, hm⟩ := xbind hm
      refine xw_iastore (pc := 13) C dX8_put_13 q4 ?_
      obtain rfl := Option.some.inj hm
      exact xw_return (pc := 14) C dX8_put_14 rfl hX
def fX0_countByRemainder_P2 (X : XCtx) (x0 : Nat) (n sl : Nat) (s : (XH × Int32)) : Prop := XW X 2 [some (.ref x0), some (.int s.2), none] [] s.1 n sl
def fX0_countByRemainder_E2 (X : XCtx) (x0 : Nat) (n sl : Nat) (e : XH) : Prop := XW X 25 [some (.ref x0), none, none] [] e n sl
set_option maxHeartbeats 4000000 in
set_option maxRecDepth 100000 in
theorem fX0_countByRemainder_B2_w {X : XCtx} (C : XOK X RX0 cX0_countByRemainder 3 "countByRemainder" none 2 43) {n sl : Nat} (hN : XN X n sl) {x0 : Nat} (s : (XH × Int32)) (o : (XH × Int32) ⊕ XH) (hm : fX0_countByRemainder_B2 x0 s = some o) (hc : ∀ s', o = .inl s' → fX0_countByRemainder_P2 X x0 n sl s') (he : ∀ e', o = .inr e' → fX0_countByRemainder_E2 X x0 n sl e') : fX0_countByRemainder_P2 X x0 n sl s := by
  obtain ⟨h, x1⟩ := s
  show XW X 2 [some (.ref x0), some (.int x1), none] [] h n sl
  replace hm : fX0_countByRemainder_b2 x0 h x1 = some o := hm
  unfold fX0_countByRemainder_b2 at hm
  refine xw_iload_n (pc := 2) (i := 1) (x := x1) C dX0_countByRemainder_2 rfl rfl ?_
  refine xw_aload_n (pc := 3) (i := 0) (x := x0) C dX0_countByRemainder_3 rfl rfl ?_
  obtain ⟨v1, q2, hm⟩ := xbind hm
  refine xw_getI (pc := 4) C dX0_countByRemainder_4 fl_X0_18 q2 ?_
  refine xw_icmp_ge (pc := 7) (tgt := 25) C dX0_countByRemainder_7 (by decide) (fun q => ?_) (fun q => ?_)
  · replace hm := xif_t q hm
    obtain rfl := Option.some.inj hm
    refine xw_sub (pc := 25) _ ?_ (he _ rfl)
    exact ⟨Or.inr rfl, Or.inl rfl, Or.inl rfl, trivial⟩
  · replace hm := xif_f q hm
    refine xw_aload_n (pc := 10) (i := 0) (x := x0) C dX0_countByRemainder_10 rfl rfl ?_
    obtain ⟨v3, q4, hm⟩ := xbind hm
    refine xw_getR (pc := 11) C dX0_countByRemainder_11 fl_X0_9 q4 ?_
    refine xw_iload_n (pc := 14) (i := 1) (x := x1) C dX0_countByRemainder_14 rfl rfl ?_
    refine xw_iconst (pc := 15) (v := 0) C dX0_countByRemainder_15 xk_i_0 ?_
    obtain ⟨h5, q6, hm⟩ := xbind hm
    refine xw_callSN0 (pc := 16) (As := [.ref v3, .int x1, .int (0 : Int32)]) (st := []) C dX0_countByRemainder_16 (wX8_put q6) dd_X8_put lk_X0_54 ds_X8_put rfl (Nat.le_of_ble_eq_true rfl) (Nat.le_of_ble_eq_true rfl) (Nat.le_of_ble_eq_true rfl) ⟨Nat.le_refl _, Nat.le_refl _⟩ hN ?_
    refine xw_iinc (pc := 19) (i := 1) (x := x1) (v := (x1 + (1 : Int32))) (L' := [some (.ref x0), some (.int (x1 + (1 : Int32))), none]) C dX0_countByRemainder_19 rfl (congrArg (HAdd.hAdd _) xk_i_1) (Nat.le_of_ble_eq_true rfl) rfl ?_
    refine xw_goto (pc := 22) (tgt := 2) C dX0_countByRemainder_22 (by decide) ?_
    obtain rfl := Option.some.inj hm
    refine xw_sub (pc := 2) _ ?_ (hc _ rfl)
    exact ⟨Or.inr rfl, Or.inr rfl, Or.inl rfl, trivial⟩
def fX0_countByRemainder_P31 (X : XCtx) (x0 : Nat) (n sl : Nat) (s : (XH × Int32)) : Prop := XW X 31 [some (.ref x0), some (.int s.2), none] [] s.1 n sl
def fX0_countByRemainder_E31 (X : XCtx) (x0 : Nat) (n sl : Nat) (e : XH) : Prop := XW X 80 [none, none, none] [] e n sl
set_option maxHeartbeats 4000000 in
set_option maxRecDepth 100000 in
theorem fX0_countByRemainder_B31_w {X : XCtx} (C : XOK X RX0 cX0_countByRemainder 3 "countByRemainder" none 2 43) {n sl : Nat} (hN : XN X n sl) {x0 : Nat} (s : (XH × Int32)) (o : (XH × Int32) ⊕ XH) (hm : fX0_countByRemainder_B31 x0 s = some o) (hc : ∀ s', o = .inl s' → fX0_countByRemainder_P31 X x0 n sl s') (he : ∀ e', o = .inr e' → fX0_countByRemainder_E31 X x0 n sl e') : fX0_countByRemainder_P31 X x0 n sl s := by
  obtain ⟨h, x1⟩ := s
  show XW X 31 [some (.ref x0), some (.int x1), none] [] h n sl
  replace hm : fX0_countByRemainder_b31 x0 h x1 = some o := hm
  unfold fX0_countByRemainder_b31 at hm
  refine xw_iload_n (pc := 31) (i := 1) (x := x1) C dX0_countByRemainder_31 rfl rfl ?_
  refine xw_aload_n (pc := 32) (i := 0) (x := x0) C dX0_countByRemainder_32 rfl rfl ?_
  obtain ⟨v11, q12, hm⟩ := xbind hm
  refine xw_getI (pc := 33) C dX0_countByRemainder_33 fl_X0_27 q12 ?_
  refine xw_icmp_gt (pc := 36) (tgt := 80) C dX0_countByRemainder_36 (by decide) (fun q => ?_) (fun q => ?_)
  · replace hm := xif_t q hm
    obtain rfl := Option.some.inj hm
    refine xw_sub (pc := 80) _ ?_ (he _ rfl)
    exact ⟨Or.inl rfl, Or.inl rfl, Or.inl rfl, trivial⟩
  · replace hm := xif_f q hm
    refine xw_iload_n (pc := 39) (i := 1) (x := x1) C dX0_countByRemainder_39 rfl rfl ?_
    refine xw_aload_n (pc := 40) (i := 0) (x := x0) C dX0_countByRemainder_40 rfl rfl ?_
    obtain ⟨v13, q14, hm⟩ := xbind hm
    refine xw_getI (pc := 41) C dX0_countByRemainder_41 fl_X0_18 q14 ?_
    obtain ⟨v15, q16, hm⟩ := xbind hm
    refine xw_callSN1 (pc := 44) (As := [.int x1, .int v13]) (st := []) C dX0_countByRemainder_44 (wX8_mod q16) dd_X8_mod lk_X0_36 ds_X8_mod rfl (Nat.le_of_ble_eq_true rfl) (Nat.le_of_ble_eq_true rfl) (Nat.le_of_ble_eq_true rfl) ⟨Nat.le_refl _, Nat.le_refl _⟩ hN ?_
    refine xw_istore_n (pc := 47) (i := 2) (x := v15) (L' := [some (.ref x0), some (.int x1), some (.int v15)]) C dX0_countByRemainder_47 rfl (Nat.le_of_ble_eq_true rfl) rfl ?_
    refine xw_aload_n (pc := 48) (i := 0) (x := x0) C dX0_countByRemainder_48 rfl rfl ?_
    refine xw_iload_n (pc := 49) (i := 1) (x := x1) C dX0_countByRemainder_49 rfl rfl ?_
    obtain ⟨_, q17, hm⟩ := xbind hm
    obtain ⟨v18, q19, hm⟩ := xbind hm
    refine xw_callV1 (pc := 50) (As := [.int x1]) (st := []) C dX0_countByRemainder_50 (wX0_has q19) dd_X0_has lk_X0_44 dv_X0_has (xco_spec q17) rfl (Nat.le_of_ble_eq_true rfl) (Nat.le_of_ble_eq_true rfl) (Nat.le_of_ble_eq_true rfl) ⟨Nat.le_refl _, Nat.le_refl _⟩ hN ?_
    refine xw_if_eqZ (pc := 53) (b := v18) (tgt := 74) C dX0_countByRemainder_53 (by decide) (fun q => ?_) (fun q => ?_)
    · replace hm := xif_f q hm
      refine xw_iinc (pc := 74) (i := 1) (x := x1) (v := (x1 + (1 : Int32))) (L' := [some (.ref x0), some (.int (x1 + (1 : Int32))), some (.int v15)]) C dX0_countByRemainder_74 rfl (congrArg (HAdd.hAdd _) xk_i_1) (Nat.le_of_ble_eq_true rfl) rfl ?_
      refine xw_goto (pc := 77) (tgt := 31) C dX0_countByRemainder_77 (by decide) ?_
      obtain rfl := Option.some.inj hm
      refine xw_sub (pc := 31) _ ?_ (hc _ rfl)
      exact ⟨Or.inr rfl, Or.inr rfl, Or.inl rfl, trivial⟩
    · replace hm := xif_t q hm
      refine xw_aload_n (pc := 56) (i := 0) (x := x0) C dX0_countByRemainder_56 rfl rfl ?_
      obtain ⟨v20, q21, hm⟩ := xbind hm
      refine xw_getR (pc := 57) C dX0_countByRemainder_57 fl_X0_9 q21 ?_
      refine xw_iload_n (pc := 60) (i := 2) (x := v15) C dX0_countByRemainder_60 rfl rfl ?_
      refine xw_aload_n (pc := 61) (i := 0) (x := x0) C dX0_countByRemainder_61 rfl rfl ?_
      obtain ⟨v22, q23, hm⟩ := xbind hm
      refine xw_getR (pc := 62) C dX0_countByRemainder_62 fl_X0_9 q23 ?_
      refine xw_iload_n (pc := 65) (i := 2) (x := v15) C dX0_countByRemainder_65 rfl rfl ?_
      obtain ⟨v24, q25, hm⟩ := xbind hm
      refine xw_callSN1 (pc := 66) (As := [.ref v22, .int v15]) (st := [.int v15, .ref v20]) C dX0_countByRemainder_66 (wX8_at q25) dd_X8_at lk_X0_58 ds_X8_at rfl (Nat.le_of_ble_eq_true rfl) (Nat.le_of_ble_eq_true rfl) (Nat.le_of_ble_eq_true rfl) ⟨Nat.le_refl _, Nat.le_refl _⟩ hN ?_
      refine xw_iconst (pc := 69) (v := 1) C dX0_countByRemainder_69 xk_i_1 ?_
      refine xw_iadd (pc := 70) C dX0_countByRemainder_70 ?_
      obtain ⟨h26, q27, hm⟩ := xbind hm
      refine xw_callSN0 (pc := 71) (As := [.ref v20, .int v15, .int (v24 + (1 : Int32))]) (st := []) C dX0_countByRemainder_71 (wX8_put q27) dd_X8_put lk_X0_54 ds_X8_put rfl (Nat.le_of_ble_eq_true rfl) (Nat.le_of_ble_eq_true rfl) (Nat.le_of_ble_eq_true rfl) ⟨Nat.le_refl _, Nat.le_refl _⟩ hN ?_
      refine xw_iinc (pc := 74) (i := 1) (x := x1) (v := (x1 + (1 : Int32))) (L' := [some (.ref x0), some (.int (x1 + (1 : Int32))), some (.int v15)]) C dX0_countByRemainder_74 rfl (congrArg (HAdd.hAdd _) xk_i_1) (Nat.le_of_ble_eq_true rfl) rfl ?_
      refine xw_goto (pc := 77) (tgt := 31) C dX0_countByRemainder_77 (by decide) ?_
      obtain rfl := Option.some.inj hm
      refine xw_sub (pc := 31) _ ?_ (hc _ rfl)
      exact ⟨Or.inr rfl, Or.inr rfl, Or.inl rfl, trivial⟩
set_option maxHeartbeats 4000000 in
set_option maxRecDepth 100000 in
theorem wX0_countByRemainder {l : Launch} {n sl : Nat} {h : XH} {x0 : Nat} {o : XH} (hm : fX0_countByRemainder h x0 = some o) : XM l yX0_countByRemainder cX0_countByRemainder 3 none 2 43 [.ref x0] h n sl none o n sl := by
  refine xm_of pnX0 [some (.ref x0), none, none] 2 rfl (Nat.le_of_ble_eq_true rfl) ?_
  intro X hT C
  replace C : XOK X RX0 cX0_countByRemainder 3 "countByRemainder" none 2 43 := C
  obtain ⟨-, hN, hX⟩ := hT
  unfold fX0_countByRemainder at hm
  refine xw_iconst (pc := 0) (v := 0) C dX0_countByRemainder_0 xk_i_0 ?_
  refine xw_istore_n (pc := 1) (i := 1) (x := (0 : Int32)) (L' := [some (.ref x0), some (.int (0 : Int32)), none]) C dX0_countByRemainder_1 rfl (Nat.le_of_ble_eq_true rfl) rfl ?_
  obtain ⟨e7, q8, hm⟩ := xbind hm
  refine xw_sub (pc := 2) [some (.ref x0), some (.int (0 : Int32)), none] ⟨Or.inr rfl, Or.inr rfl, Or.inl rfl, trivial⟩ ?_
  refine xloop_walk (fX0_countByRemainder_B2 x0) (fX0_countByRemainder_P2 X x0 n sl) (fX0_countByRemainder_E2 X x0 n sl) (fun s' o' => fX0_countByRemainder_B2_w C hN s' o') 5000 (h, (0 : Int32)) e7 q8 ?_
  show XW X 25 [some (.ref x0), none, none] [] e7 n sl
  refine xw_aload_n (pc := 25) (i := 0) (x := x0) C dX0_countByRemainder_25 rfl rfl ?_
  obtain ⟨v9, q10, hm⟩ := xbind hm
  refine xw_getI (pc := 26) C dX0_countByRemainder_26 fl_X0_27 q10 ?_
  refine xw_ineg (pc := 29) C dX0_countByRemainder_29 ?_
  refine xw_istore_n (pc := 30) (i := 1) (x := (-v9)) (L' := [some (.ref x0), some (.int (-v9)), none]) C dX0_countByRemainder_30 rfl (Nat.le_of_ble_eq_true rfl) rfl ?_
  obtain ⟨e28, q29, hm⟩ := xbind hm
  refine xw_sub (pc := 31) [some (.ref x0), some (.int (-v9)), none] ⟨Or.inr rfl, Or.inr rfl, Or.inl rfl, trivial⟩ ?_
  refine xloop_walk (fX0_countByRemainder_B31 x0) (fX0_countByRemainder_P31 X x0 n sl) (fX0_countByRemainder_E31 X x0 n sl) (fun s' o' => fX0_countByRemainder_B31_w C hN s' o') 5000 (e7, (-v9)) e28 q29 ?_
  show XW X 80 [none, none, none] [] e28 n sl
  obtain rfl := Option.some.inj hm
  exact xw_return (pc := 80) C dX0_countByRemainder_80 rfl hX
def fX0_restOf_P2 (X : XCtx) (x0 : Nat) (x1 : Int32) (n sl : Nat) (s : (XH × Int32)) : Prop := XW X 2 [some (.ref x0), some (.int x1), some (.int s.2), none, none] [] s.1 n sl
def fX0_restOf_E2 (X : XCtx) (x0 : Nat) (x1 : Int32) (n sl : Nat) (e : XH) : Prop := XW X 25 [some (.ref x0), some (.int x1), none, none, none] [] e n sl
set_option maxHeartbeats 4000000 in
set_option maxRecDepth 100000 in
theorem fX0_restOf_B2_w {X : XCtx} (C : XOK X RX0 cX0_restOf 5 "restOf" (some .int) 1 22) {n sl : Nat} (hN : XN X n sl) {x0 : Nat} {x1 : Int32} (s : (XH × Int32)) (o : (XH × Int32) ⊕ XH) (hm : fX0_restOf_B2 x0 x1 s = some o) (hc : ∀ s', o = .inl s' → fX0_restOf_P2 X x0 x1 n sl s') (he : ∀ e', o = .inr e' → fX0_restOf_E2 X x0 x1 n sl e') : fX0_restOf_P2 X x0 x1 n sl s := by
  obtain ⟨h, x2⟩ := s
  show XW X 2 [some (.ref x0), some (.int x1), some (.int x2), none, none] [] h n sl
  replace hm : fX0_restOf_b2 x0 x1 h x2 = some o := hm
  unfold fX0_restOf_b2 at hm
  refine xw_iload_n (pc := 2) (i := 2) (x := x2) C dX0_restOf_2 rfl rfl ?_
  refine xw_aload_n (pc := 3) (i := 0) (x := x0) C dX0_restOf_3 rfl rfl ?_
  obtain ⟨v1, q2, hm⟩ := xbind hm
  refine xw_getI (pc := 4) C dX0_restOf_4 fl_X0_18 q2 ?_
  refine xw_icmp_ge (pc := 7) (tgt := 25) C dX0_restOf_7 (by decide) (fun q => ?_) (fun q => ?_)
  · replace hm := xif_t q hm
    obtain rfl := Option.some.inj hm
    refine xw_sub (pc := 25) _ ?_ (he _ rfl)
    exact ⟨Or.inr rfl, Or.inr rfl, Or.inl rfl, Or.inl rfl, Or.inl rfl, trivial⟩
  · replace hm := xif_f q hm
    refine xw_aload_n (pc := 10) (i := 0) (x := x0) C dX0_restOf_10 rfl rfl ?_
    obtain ⟨v3, q4, hm⟩ := xbind hm
    refine xw_getR (pc := 11) C dX0_restOf_11 fl_X0_15 q4 ?_
    refine xw_iload_n (pc := 14) (i := 2) (x := x2) C dX0_restOf_14 rfl rfl ?_
    refine xw_iconst (pc := 15) (v := 0) C dX0_restOf_15 xk_i_0 ?_
    obtain ⟨h5, q6, hm⟩ := xbind hm
    refine xw_callSN0 (pc := 16) (As := [.ref v3, .int x2, .int (0 : Int32)]) (st := []) C dX0_restOf_16 (wX8_put q6) dd_X8_put lk_X0_54 ds_X8_put rfl (Nat.le_of_ble_eq_true rfl) (Nat.le_of_ble_eq_true rfl) (Nat.le_of_ble_eq_true rfl) ⟨Nat.le_refl _, Nat.le_refl _⟩ hN ?_
    refine xw_iinc (pc := 19) (i := 2) (x := x2) (v := (x2 + (1 : Int32))) (L' := [some (.ref x0), some (.int x1), some (.int (x2 + (1 : Int32))), none, none]) C dX0_restOf_19 rfl (congrArg (HAdd.hAdd _) xk_i_1) (Nat.le_of_ble_eq_true rfl) rfl ?_
    refine xw_goto (pc := 22) (tgt := 2) C dX0_restOf_22 (by decide) ?_
    obtain rfl := Option.some.inj hm
    refine xw_sub (pc := 2) _ ?_ (hc _ rfl)
    exact ⟨Or.inr rfl, Or.inr rfl, Or.inr rfl, Or.inl rfl, Or.inl rfl, trivial⟩
def fX0_restOf_P29 (X : XCtx) (x0 : Nat) (x1 : Int32) (n sl : Nat) (s : (XH × Int32 × Int32)) : Prop := XW X 29 [some (.ref x0), some (.int x1), some (.int s.2.1), some (.int s.2.2), none] [] s.1 n sl
def fX0_restOf_E29 (X : XCtx) (x0 : Nat) (x1 : Int32) (n sl : Nat) (e : (XH × Int32)) : Prop := XW X 96 [none, none, some (.int e.2), none, none] [] e.1 n sl
set_option maxHeartbeats 4000000 in
set_option maxRecDepth 100000 in
theorem fX0_restOf_B29_w {X : XCtx} (C : XOK X RX0 cX0_restOf 5 "restOf" (some .int) 1 22) {n sl : Nat} (hN : XN X n sl) {x0 : Nat} {x1 : Int32} (s : (XH × Int32 × Int32)) (o : (XH × Int32 × Int32) ⊕ (XH × Int32)) (hm : fX0_restOf_B29 x0 x1 s = some o) (hc : ∀ s', o = .inl s' → fX0_restOf_P29 X x0 x1 n sl s') (he : ∀ e', o = .inr e' → fX0_restOf_E29 X x0 x1 n sl e') : fX0_restOf_P29 X x0 x1 n sl s := by
  obtain ⟨h, x2, x3⟩ := s
  show XW X 29 [some (.ref x0), some (.int x1), some (.int x2), some (.int x3), none] [] h n sl
  replace hm : fX0_restOf_b29 x0 x1 h x2 x3 = some o := hm
  unfold fX0_restOf_b29 at hm
  refine xw_iload_n (pc := 29) (i := 3) (x := x3) C dX0_restOf_29 rfl rfl ?_
  refine xw_aload_n (pc := 30) (i := 0) (x := x0) C dX0_restOf_30 rfl rfl ?_
  obtain ⟨v9, q10, hm⟩ := xbind hm
  refine xw_getI (pc := 31) C dX0_restOf_31 fl_X0_18 q10 ?_
  refine xw_icmp_ge (pc := 34) (tgt := 96) C dX0_restOf_34 (by decide) (fun q => ?_) (fun q => ?_)
  · replace hm := xif_t q hm
    obtain rfl := Option.some.inj hm
    refine xw_sub (pc := 96) _ ?_ (he _ rfl)
    exact ⟨Or.inl rfl, Or.inl rfl, Or.inr rfl, Or.inl rfl, Or.inl rfl, trivial⟩
  · replace hm := xif_f q hm
    refine xw_iload_n (pc := 37) (i := 3) (x := x3) C dX0_restOf_37 rfl rfl ?_
    refine xw_iload_n (pc := 38) (i := 1) (x := x1) C dX0_restOf_38 rfl rfl ?_
    refine xw_imul (pc := 39) C dX0_restOf_39 ?_
    refine xw_aload_n (pc := 40) (i := 0) (x := x0) C dX0_restOf_40 rfl rfl ?_
    obtain ⟨v11, q12, hm⟩ := xbind hm
    refine xw_getI (pc := 41) C dX0_restOf_41 fl_X0_18 q12 ?_
    obtain ⟨v13, q14, hm⟩ := xbind hm
    refine xw_callSN1 (pc := 44) (As := [.int (x3 * x1), .int v11]) (st := []) C dX0_restOf_44 (wX8_mod q14) dd_X8_mod lk_X0_36 ds_X8_mod rfl (Nat.le_of_ble_eq_true rfl) (Nat.le_of_ble_eq_true rfl) (Nat.le_of_ble_eq_true rfl) ⟨Nat.le_refl _, Nat.le_refl _⟩ hN ?_
    refine xw_istore (pc := 47) (i := 4) (x := v13) (L' := [some (.ref x0), some (.int x1), some (.int x2), some (.int x3), some (.int v13)]) C dX0_restOf_47 (Nat.le_of_ble_eq_true rfl) rfl ?_
    refine xw_aload_n (pc := 49) (i := 0) (x := x0) C dX0_restOf_49 rfl rfl ?_
    obtain ⟨v15, q16, hm⟩ := xbind hm
    refine xw_getR (pc := 50) C dX0_restOf_50 fl_X0_15 q16 ?_
    refine xw_iload (pc := 53) (i := 4) (x := v13) C dX0_restOf_53 rfl ?_
    refine xw_aload_n (pc := 55) (i := 0) (x := x0) C dX0_restOf_55 rfl rfl ?_
    obtain ⟨v17, q18, hm⟩ := xbind hm
    refine xw_getR (pc := 56) C dX0_restOf_56 fl_X0_15 q18 ?_
    refine xw_iload (pc := 59) (i := 4) (x := v13) C dX0_restOf_59 rfl ?_
    obtain ⟨v19, q20, hm⟩ := xbind hm
    refine xw_callSN1 (pc := 61) (As := [.ref v17, .int v13]) (st := [.int v13, .ref v15]) C dX0_restOf_61 (wX8_at q20) dd_X8_at lk_X0_58 ds_X8_at rfl (Nat.le_of_ble_eq_true rfl) (Nat.le_of_ble_eq_true rfl) (Nat.le_of_ble_eq_true rfl) ⟨Nat.le_refl _, Nat.le_refl _⟩ hN ?_
    refine xw_aload_n (pc := 64) (i := 0) (x := x0) C dX0_restOf_64 rfl rfl ?_
    obtain ⟨v21, q22, hm⟩ := xbind hm
    refine xw_getR (pc := 65) C dX0_restOf_65 fl_X0_9 q22 ?_
    refine xw_iload_n (pc := 68) (i := 3) (x := x3) C dX0_restOf_68 rfl rfl ?_
    obtain ⟨v23, q24, hm⟩ := xbind hm
    refine xw_callSN1 (pc := 69) (As := [.ref v21, .int x3]) (st := [.int v19, .int v13, .ref v15]) C dX0_restOf_69 (wX8_at q24) dd_X8_at lk_X0_58 ds_X8_at rfl (Nat.le_of_ble_eq_true rfl) (Nat.le_of_ble_eq_true rfl) (Nat.le_of_ble_eq_true rfl) ⟨Nat.le_refl _, Nat.le_refl _⟩ hN ?_
    refine xw_iadd (pc := 72) C dX0_restOf_72 ?_
    obtain ⟨h25, q26, hm⟩ := xbind hm
    refine xw_callSN0 (pc := 73) (As := [.ref v15, .int v13, .int (v19 + v23)]) (st := []) C dX0_restOf_73 (wX8_put q26) dd_X8_put lk_X0_54 ds_X8_put rfl (Nat.le_of_ble_eq_true rfl) (Nat.le_of_ble_eq_true rfl) (Nat.le_of_ble_eq_true rfl) ⟨Nat.le_refl _, Nat.le_refl _⟩ hN ?_
    refine xw_iload_n (pc := 76) (i := 2) (x := x2) C dX0_restOf_76 rfl rfl ?_
    refine xw_aload_n (pc := 77) (i := 0) (x := x0) C dX0_restOf_77 rfl rfl ?_
    obtain ⟨v27, q28, hm⟩ := xbind hm
    refine xw_getR (pc := 78) C dX0_restOf_78 fl_X0_15 q28 ?_
    refine xw_iload (pc := 81) (i := 4) (x := v13) C dX0_restOf_81 rfl ?_
    obtain ⟨v29, q30, hm⟩ := xbind hm
    refine xw_callSN1 (pc := 83) (As := [.ref v27, .int v13]) (st := [.int x2]) C dX0_restOf_83 (wX8_at q30) dd_X8_at lk_X0_58 ds_X8_at rfl (Nat.le_of_ble_eq_true rfl) (Nat.le_of_ble_eq_true rfl) (Nat.le_of_ble_eq_true rfl) ⟨Nat.le_refl _, Nat.le_refl _⟩ hN ?_
    refine xw_mmax (pc := 86) C dX0_restOf_86 lk_X0_62 ds_J9_max_7cf53 dd_J9_max_7cf53 (Nat.le_of_ble_eq_true rfl) (Nat.le_of_ble_eq_true rfl) hN ?_
    refine xw_istore_n (pc := 89) (i := 2) (x := (xmmax x2 v29)) (L' := [some (.ref x0), some (.int x1), some (.int (xmmax x2 v29)), some (.int x3), some (.int v13)]) C dX0_restOf_89 rfl (Nat.le_of_ble_eq_true rfl) rfl ?_
    refine xw_iinc (pc := 90) (i := 3) (x := x3) (v := (x3 + (1 : Int32))) (L' := [some (.ref x0), some (.int x1), some (.int (xmmax x2 v29)), some (.int (x3 + (1 : Int32))), some (.int v13)]) C dX0_restOf_90 rfl (congrArg (HAdd.hAdd _) xk_i_1) (Nat.le_of_ble_eq_true rfl) rfl ?_
    refine xw_goto (pc := 93) (tgt := 29) C dX0_restOf_93 (by decide) ?_
    obtain rfl := Option.some.inj hm
    refine xw_sub (pc := 29) _ ?_ (hc _ rfl)
    exact ⟨Or.inr rfl, Or.inr rfl, Or.inr rfl, Or.inr rfl, Or.inl rfl, trivial⟩
set_option maxHeartbeats 4000000 in
set_option maxRecDepth 100000 in
theorem wX0_restOf {l : Launch} {n sl : Nat} {h : XH} {x0 : Nat} {x1 : Int32} {o : Int32 × XH} (hm : fX0_restOf h x0 x1 = some o) : XM l yX0_restOf cX0_restOf 5 (some .int) 1 22 [.ref x0, .int x1] h n sl (some (.int o.1)) o.2 n sl := by
  refine xm_of pnX0 [some (.ref x0), some (.int x1), none, none, none] 3 rfl (Nat.le_of_ble_eq_true rfl) ?_
  intro X hT C
  replace C : XOK X RX0 cX0_restOf 5 "restOf" (some .int) 1 22 := C
  obtain ⟨-, hN, hX⟩ := hT
  unfold fX0_restOf at hm
  refine xw_iconst (pc := 0) (v := 0) C dX0_restOf_0 xk_i_0 ?_
  refine xw_istore_n (pc := 1) (i := 2) (x := (0 : Int32)) (L' := [some (.ref x0), some (.int x1), some (.int (0 : Int32)), none, none]) C dX0_restOf_1 rfl (Nat.le_of_ble_eq_true rfl) rfl ?_
  obtain ⟨e7, q8, hm⟩ := xbind hm
  refine xw_sub (pc := 2) [some (.ref x0), some (.int x1), some (.int (0 : Int32)), none, none] ⟨Or.inr rfl, Or.inr rfl, Or.inr rfl, Or.inl rfl, Or.inl rfl, trivial⟩ ?_
  refine xloop_walk (fX0_restOf_B2 x0 x1) (fX0_restOf_P2 X x0 x1 n sl) (fX0_restOf_E2 X x0 x1 n sl) (fun s' o' => fX0_restOf_B2_w C hN s' o') 5000 (h, (0 : Int32)) e7 q8 ?_
  show XW X 25 [some (.ref x0), some (.int x1), none, none, none] [] e7 n sl
  refine xw_iconst (pc := 25) (v := 0) C dX0_restOf_25 xk_i_0 ?_
  refine xw_istore_n (pc := 26) (i := 2) (x := (0 : Int32)) (L' := [some (.ref x0), some (.int x1), some (.int (0 : Int32)), none, none]) C dX0_restOf_26 rfl (Nat.le_of_ble_eq_true rfl) rfl ?_
  refine xw_iconst (pc := 27) (v := 0) C dX0_restOf_27 xk_i_0 ?_
  refine xw_istore_n (pc := 28) (i := 3) (x := (0 : Int32)) (L' := [some (.ref x0), some (.int x1), some (.int (0 : Int32)), some (.int (0 : Int32)), none]) C dX0_restOf_28 rfl (Nat.le_of_ble_eq_true rfl) rfl ?_
  obtain ⟨e31, q32, hm⟩ := xbind hm
  refine xw_sub (pc := 29) [some (.ref x0), some (.int x1), some (.int (0 : Int32)), some (.int (0 : Int32)), none] ⟨Or.inr rfl, Or.inr rfl, Or.inr rfl, Or.inr rfl, Or.inl rfl, trivial⟩ ?_
  refine xloop_walk (fX0_restOf_B29 x0 x1) (fX0_restOf_P29 X x0 x1 n sl) (fX0_restOf_E29 X x0 x1 n sl) (fun s' o' => fX0_restOf_B29_w C hN s' o') 5000 (e7, (0 : Int32), (0 : Int32)) e31 q32 ?_
  show XW X 96 [none, none, some (.int e31.2), none, none] [] e31.1 n sl
  refine xw_iload_n (pc := 96) (i := 2) (x := e31.2) C dX0_restOf_96 rfl rfl ?_
  obtain rfl := Option.some.inj hm
  exact xw_ireturn (pc := 97) C dX0_restOf_97 rfl hX
def fX8_bestPeriod_P49 (X : XCtx) (x1 : Int32) (x2 : Bool) (x3 : Nat) (n sl : Nat) (s : (XH × Int32 × Int32 × Int32)) : Prop := XW X 49 [none, some (.int x1), some (.int (xbi x2)), some (.ref x3), some (.int s.2.1), some (.int s.2.2.1), some (.int s.2.2.2), none] [] s.1 n sl
def fX8_bestPeriod_E49 (X : XCtx) (x1 : Int32) (x2 : Bool) (x3 : Nat) (n sl : Nat) (e : (XH × Int32 × Int32)) : Prop := XW X 84 [none, none, some (.int (xbi x2)), none, some (.int e.2.1), some (.int e.2.2), none, none] [] e.1 n sl
set_option maxHeartbeats 4000000 in
set_option maxRecDepth 100000 in
theorem fX8_bestPeriod_B49_w {X : XCtx} (C : XOK X RX8 cX8_bestPeriod 8 "bestPeriod" (some .int) 4 91) {n sl : Nat} (hN : XN X n sl) {x1 : Int32} {x2 : Bool} {x3 : Nat} (s : (XH × Int32 × Int32 × Int32)) (o : (XH × Int32 × Int32 × Int32) ⊕ (XH × Int32 × Int32)) (hm : fX8_bestPeriod_B49 x1 x2 x3 s = some o) (hc : ∀ s', o = .inl s' → fX8_bestPeriod_P49 X x1 x2 x3 n sl s') (he : ∀ e', o = .inr e' → fX8_bestPeriod_E49 X x1 x2 x3 n sl e') : fX8_bestPeriod_P49 X x1 x2 x3 n sl s := by
  obtain ⟨h, x4, x5, x6⟩ := s
  show XW X 49 [none, some (.int x1), some (.int (xbi x2)), some (.ref x3), some (.int x4), some (.int x5), some (.int x6), none] [] h n sl
  replace hm : fX8_bestPeriod_b49 x1 x2 x3 h x4 x5 x6 = some o := hm
  unfold fX8_bestPeriod_b49 at hm
  refine xw_iload (pc := 49) (i := 6) (x := x6) C dX8_bestPeriod_49 rfl ?_
  refine xw_iload_n (pc := 51) (i := 1) (x := x1) C dX8_bestPeriod_51 rfl rfl ?_
  refine xw_icmp_gt (pc := 52) (tgt := 84) C dX8_bestPeriod_52 (by decide) (fun q => ?_) (fun q => ?_)
  · replace hm := xif_t q hm
    obtain rfl := Option.some.inj hm
    refine xw_sub (pc := 84) _ ?_ (he _ rfl)
    exact ⟨Or.inl rfl, Or.inl rfl, Or.inr rfl, Or.inl rfl, Or.inr rfl, Or.inr rfl, Or.inl rfl, Or.inl rfl, trivial⟩
  · replace hm := xif_f q hm
    refine xw_aload_n (pc := 55) (i := 3) (x := x3) C dX8_bestPeriod_55 rfl rfl ?_
    refine xw_iload (pc := 56) (i := 6) (x := x6) C dX8_bestPeriod_56 rfl ?_
    obtain ⟨_, q15, hm⟩ := xbind hm
    obtain ⟨v16, q17, hm⟩ := xbind hm
    refine xw_callV1 (pc := 58) (As := [.int x6]) (st := []) C dX8_bestPeriod_58 (wX0_restOf q17) dd_X0_restOf lk_X8_223 dv_X0_restOf (xco_spec q15) rfl (Nat.le_of_ble_eq_true rfl) (Nat.le_of_ble_eq_true rfl) (Nat.le_of_ble_eq_true rfl) ⟨Nat.le_refl _, Nat.le_refl _⟩ hN ?_
    refine xw_istore (pc := 61) (i := 7) (x := v16.1) (L' := [none, some (.int x1), some (.int (xbi x2)), some (.ref x3), some (.int x4), some (.int x5), some (.int x6), some (.int v16.1)]) C dX8_bestPeriod_61 (Nat.le_of_ble_eq_true rfl) rfl ?_
    refine xw_iload (pc := 63) (i := 7) (x := v16.1) C dX8_bestPeriod_63 rfl ?_
    refine xw_iload (pc := 65) (i := 5) (x := x5) C dX8_bestPeriod_65 rfl ?_
    refine xw_icmp_ge (pc := 67) (tgt := 78) C dX8_bestPeriod_67 (by decide) (fun q => ?_) (fun q => ?_)
    · replace hm := xif_t q hm
      refine xw_iinc (pc := 78) (i := 6) (x := x6) (v := (x6 + (1 : Int32))) (L' := [none, some (.int x1), some (.int (xbi x2)), some (.ref x3), some (.int x4), some (.int x5), some (.int (x6 + (1 : Int32))), some (.int v16.1)]) C dX8_bestPeriod_78 rfl (congrArg (HAdd.hAdd _) xk_i_1) (Nat.le_of_ble_eq_true rfl) rfl ?_
      refine xw_goto (pc := 81) (tgt := 49) C dX8_bestPeriod_81 (by decide) ?_
      obtain rfl := Option.some.inj hm
      refine xw_sub (pc := 49) _ ?_ (hc _ rfl)
      exact ⟨Or.inl rfl, Or.inr rfl, Or.inr rfl, Or.inr rfl, Or.inr rfl, Or.inr rfl, Or.inr rfl, Or.inl rfl, trivial⟩
    · replace hm := xif_f q hm
      refine xw_iload (pc := 70) (i := 7) (x := v16.1) C dX8_bestPeriod_70 rfl ?_
      refine xw_istore (pc := 72) (i := 5) (x := v16.1) (L' := [none, some (.int x1), some (.int (xbi x2)), some (.ref x3), some (.int x4), some (.int v16.1), some (.int x6), some (.int v16.1)]) C dX8_bestPeriod_72 (Nat.le_of_ble_eq_true rfl) rfl ?_
      refine xw_iload (pc := 74) (i := 6) (x := x6) C dX8_bestPeriod_74 rfl ?_
      refine xw_istore (pc := 76) (i := 4) (x := x6) (L' := [none, some (.int x1), some (.int (xbi x2)), some (.ref x3), some (.int x6), some (.int v16.1), some (.int x6), some (.int v16.1)]) C dX8_bestPeriod_76 (Nat.le_of_ble_eq_true rfl) rfl ?_
      refine xw_iinc (pc := 78) (i := 6) (x := x6) (v := (x6 + (1 : Int32))) (L' := [none, some (.int x1), some (.int (xbi x2)), some (.ref x3), some (.int x6), some (.int v16.1), some (.int (x6 + (1 : Int32))), some (.int v16.1)]) C dX8_bestPeriod_78 rfl (congrArg (HAdd.hAdd _) xk_i_1) (Nat.le_of_ble_eq_true rfl) rfl ?_
      refine xw_goto (pc := 81) (tgt := 49) C dX8_bestPeriod_81 (by decide) ?_
      obtain rfl := Option.some.inj hm
      refine xw_sub (pc := 49) _ ?_ (hc _ rfl)
      exact ⟨Or.inl rfl, Or.inr rfl, Or.inr rfl, Or.inr rfl, Or.inr rfl, Or.inr rfl, Or.inr rfl, Or.inl rfl, trivial⟩
set_option maxHeartbeats 4000000 in
set_option maxRecDepth 100000 in
theorem wX8_bestPeriod {l : Launch} {n sl : Nat} {h : XH} {x0 : Nat} {x1 : Int32} {x2 : Bool} {o : Int32 × XH} (hm : fX8_bestPeriod h x0 x1 x2 = some o) : XM l yX8_bestPeriod cX8_bestPeriod 8 (some .int) 4 91 [.ref x0, .int x1, .int (xbi x2)] h n sl (some (.int o.1)) o.2 n sl := by
  refine xm_of pnX8 [some (.ref x0), some (.int x1), some (.int (xbi x2)), none, none, none, none, none] 5 rfl (Nat.le_of_ble_eq_true rfl) ?_
  intro X hT C
  replace C : XOK X RX8 cX8_bestPeriod 8 "bestPeriod" (some .int) 4 91 := C
  obtain ⟨-, hN, hX⟩ := hT
  unfold fX8_bestPeriod at hm
  refine xw_iload_n (pc := 0) (i := 1) (x := x1) C dX8_bestPeriod_0 rfl rfl ?_
  refine xw_iconst (pc := 1) (v := 1) C dX8_bestPeriod_1 xk_i_1 ?_
  refine xw_sipush (pc := 2) (v := 500) C dX8_bestPeriod_2 xk_s_500 ?_
  obtain ⟨v1, q2, hm⟩ := xbind hm
  refine xw_callS1 (pc := 5) (As := [.int x1, .int (1 : Int32), .int (500 : Int32)]) (st := []) C dX8_bestPeriod_5 (wX8_within q2) dd_X8_within lk_X8_44 ds_X8_within rfl (Nat.le_of_ble_eq_true rfl) (Nat.le_of_ble_eq_true rfl) (Nat.le_of_ble_eq_true rfl) ⟨Nat.le_refl _, Nat.le_refl _⟩ hN ?_
  refine xw_if_neZ (pc := 8) (b := v1) (tgt := 15) C dX8_bestPeriod_8 (by decide) (fun q => ?_) (fun q => ?_)
  · replace hm := xif_t q hm
    refine xw_aload_n (pc := 15) (i := 0) (x := x0) C dX8_bestPeriod_15 rfl rfl ?_
    refine xw_iconst (pc := 16) (v := -1) C dX8_bestPeriod_16 xk_i_m1 ?_
    obtain ⟨_, q3, hm⟩ := xbind hm
    obtain ⟨v4, q5, hm⟩ := xbind hm
    refine xw_callV1 (pc := 17) (As := [.int (-1 : Int32)]) (st := []) C dX8_bestPeriod_17 (wX8_findWithout q5) dd_X8_findWithout lk_X8_203 dv_X8_findWithout (xco_spec q3) rfl (Nat.le_of_ble_eq_true rfl) (Nat.le_of_ble_eq_true rfl) (Nat.le_of_ble_eq_true rfl) ⟨Nat.le_refl _, Nat.le_refl _⟩ hN ?_
    refine xw_astore_n (pc := 20) (i := 3) (x := v4.1) (L' := [some (.ref x0), some (.int x1), some (.int (xbi x2)), some (.ref v4.1), none, none, none, none]) C dX8_bestPeriod_20 rfl (Nat.le_of_ble_eq_true rfl) rfl ?_
    refine xw_aload_n (pc := 21) (i := 3) (x := v4.1) C dX8_bestPeriod_21 rfl rfl ?_
    obtain ⟨_, q6, hm⟩ := xbind hm
    obtain ⟨v7, q8, hm⟩ := xbind hm
    refine xw_callV1 (pc := 22) (As := []) (st := []) C dX8_bestPeriod_22 (wX0_number q8) dd_X0_number lk_X8_207 dv_X0_number (xco_spec q6) rfl (Nat.le_of_ble_eq_true rfl) (Nat.le_of_ble_eq_true rfl) (Nat.le_of_ble_eq_true rfl) ⟨Nat.le_refl _, Nat.le_refl _⟩ hN ?_
    refine xw_if_ne (pc := 25) (tgt := 32) C dX8_bestPeriod_25 (by decide) (fun q => ?_) (fun q => ?_)
    · replace hm := xif_f q hm
      refine xw_aload_n (pc := 32) (i := 3) (x := v4.1) C dX8_bestPeriod_32 rfl rfl ?_
      obtain ⟨_, q9, hm⟩ := xbind hm
      obtain ⟨h10, q11, hm⟩ := xbind hm
      refine xw_callV0 (pc := 33) (As := []) (st := []) C dX8_bestPeriod_33 (wX0_countByRemainder q11) dd_X0_countByRemainder lk_X8_220 dv_X0_countByRemainder (xco_spec q9) rfl (Nat.le_of_ble_eq_true rfl) (Nat.le_of_ble_eq_true rfl) (Nat.le_of_ble_eq_true rfl) ⟨Nat.le_refl _, Nat.le_refl _⟩ hN ?_
      refine xw_iconst (pc := 36) (v := 1) C dX8_bestPeriod_36 xk_i_1 ?_
      refine xw_istore (pc := 37) (i := 4) (x := (1 : Int32)) (L' := [some (.ref x0), some (.int x1), some (.int (xbi x2)), some (.ref v4.1), some (.int (1 : Int32)), none, none, none]) C dX8_bestPeriod_37 (Nat.le_of_ble_eq_true rfl) rfl ?_
      refine xw_aload_n (pc := 39) (i := 3) (x := v4.1) C dX8_bestPeriod_39 rfl rfl ?_
      refine xw_iconst (pc := 40) (v := 1) C dX8_bestPeriod_40 xk_i_1 ?_
      obtain ⟨_, q12, hm⟩ := xbind hm
      obtain ⟨v13, q14, hm⟩ := xbind hm
      refine xw_callV1 (pc := 41) (As := [.int (1 : Int32)]) (st := []) C dX8_bestPeriod_41 (wX0_restOf q14) dd_X0_restOf lk_X8_223 dv_X0_restOf (xco_spec q12) rfl (Nat.le_of_ble_eq_true rfl) (Nat.le_of_ble_eq_true rfl) (Nat.le_of_ble_eq_true rfl) ⟨Nat.le_refl _, Nat.le_refl _⟩ hN ?_
      refine xw_istore (pc := 44) (i := 5) (x := v13.1) (L' := [some (.ref x0), some (.int x1), some (.int (xbi x2)), some (.ref v4.1), some (.int (1 : Int32)), some (.int v13.1), none, none]) C dX8_bestPeriod_44 (Nat.le_of_ble_eq_true rfl) rfl ?_
      refine xw_iconst (pc := 46) (v := 2) C dX8_bestPeriod_46 xk_i_2 ?_
      refine xw_istore (pc := 47) (i := 6) (x := (2 : Int32)) (L' := [some (.ref x0), some (.int x1), some (.int (xbi x2)), some (.ref v4.1), some (.int (1 : Int32)), some (.int v13.1), some (.int (2 : Int32)), none]) C dX8_bestPeriod_47 (Nat.le_of_ble_eq_true rfl) rfl ?_
      obtain ⟨e18, q19, hm⟩ := xbind hm
      refine xw_sub (pc := 49) [none, some (.int x1), some (.int (xbi x2)), some (.ref v4.1), some (.int (1 : Int32)), some (.int v13.1), some (.int (2 : Int32)), none] ⟨Or.inl rfl, Or.inr rfl, Or.inr rfl, Or.inr rfl, Or.inr rfl, Or.inr rfl, Or.inr rfl, Or.inl rfl, trivial⟩ ?_
      refine xloop_walk (fX8_bestPeriod_B49 x1 x2 v4.1) (fX8_bestPeriod_P49 X x1 x2 v4.1 n sl) (fX8_bestPeriod_E49 X x1 x2 v4.1 n sl) (fun s' o' => fX8_bestPeriod_B49_w C hN s' o') 5000 (v13.2, (1 : Int32), v13.1, (2 : Int32)) e18 q19 ?_
      show XW X 84 [none, none, some (.int (xbi x2)), none, some (.int e18.2.1), some (.int e18.2.2), none, none] [] e18.1 n sl
      refine xw_iload_n (pc := 84) (i := 2) (x := (xbi x2)) C dX8_bestPeriod_84 rfl rfl ?_
      refine xw_if_eqZ (pc := 85) (b := x2) (tgt := 93) C dX8_bestPeriod_85 (by decide) (fun q => ?_) (fun q => ?_)
      · replace hm := xif_f q hm
        refine xw_iload (pc := 93) (i := 4) (x := e18.2.1) C dX8_bestPeriod_93 rfl ?_
        obtain rfl := Option.some.inj hm
        exact xw_ireturn (pc := 95) C dX8_bestPeriod_95 rfl hX
      · replace hm := xif_t q hm
        refine xw_iload (pc := 88) (i := 5) (x := e18.2.2) C dX8_bestPeriod_88 rfl ?_
        refine xw_goto (pc := 90) (tgt := 95) C dX8_bestPeriod_90 (by decide) ?_
        obtain rfl := Option.some.inj hm
        exact xw_ireturn (pc := 95) C dX8_bestPeriod_95 rfl hX
    · replace hm := xif_t q hm
      refine xw_sipush (pc := 28) (v := -1004) C dX8_bestPeriod_28 xk_s_m1004 ?_
      obtain rfl := Option.some.inj hm
      exact xw_ireturn (pc := 31) C dX8_bestPeriod_31 rfl hX
  · replace hm := xif_f q hm
    refine xw_sipush (pc := 11) (v := -1001) C dX8_bestPeriod_11 xk_s_m1001 ?_
    obtain rfl := Option.some.inj hm
    exact xw_ireturn (pc := 14) C dX8_bestPeriod_14 rfl hX
