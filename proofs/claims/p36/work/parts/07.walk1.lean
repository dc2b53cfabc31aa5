def fX0_find_P21 (X : XCtx) (x0 : Nat) (x2 : Nat) (x3 : Int32) (n sl : Nat) (s : (XH × Int32)) : Prop := XW X 21 [some (.ref x0), none, some (.ref x2), some (.int x3), some (.int s.2)] [] s.1 n sl
def fX0_find_E21 (X : XCtx) (x0 : Nat) (x2 : Nat) (x3 : Int32) (n sl : Nat) (e : XH) : Prop := XW X 63 [none, none, none, none, none] [] e n sl
set_option maxHeartbeats 4000000 in
set_option maxRecDepth 100000 in
theorem fX0_find_B21_w {X : XCtx} (C : XOK X RX0 cX0_find 5 "find" none 2 46) {n sl : Nat} (hN : XN X n sl) {x0 : Nat} {x2 : Nat} {x3 : Int32} (s : (XH × Int32)) (o : (XH × Int32) ⊕ XH) (hm : fX0_find_B21 x0 x2 x3 s = some o) (hc : ∀ s', o = .inl s' → fX0_find_P21 X x0 x2 x3 n sl s') (he : ∀ e', o = .inr e' → fX0_find_E21 X x0 x2 x3 n sl e') : fX0_find_P21 X x0 x2 x3 n sl s := by
  obtain ⟨h, x4⟩ := s
  show XW X 21 [some (.ref x0), none, some (.ref x2), some (.int x3), some (.int x4)] [] h n sl
  replace hm : fX0_find_b21 x0 x2 x3 h x4 = some o := hm
  unfold fX0_find_b21 at hm
  refine xw_iload (pc := 21) (i := 4) (x := x4) C dX0_find_21 rfl ?_
  refine xw_aload_n (pc := 23) (i := 0) (x := x0) C dX0_find_23 rfl rfl ?_
  obtain ⟨v9, q10, hm⟩ := xbind hm
  refine xw_getI (pc := 24) C dX0_find_24 fl_X0_18 q10 ?_
  refine xw_icmp_ge (pc := 27) (tgt := 63) C dX0_find_27 (by decide) (fun q => ?_) (fun q => ?_)
  · replace hm := xif_t q hm
    obtain rfl := Option.some.inj hm
    refine xw_sub (pc := 63) _ ?_ (he _ rfl)
    exact ⟨Or.inl rfl, Or.inl rfl, Or.inl rfl, Or.inl rfl, Or.inl rfl, trivial⟩
  · replace hm := xif_f q hm
    refine xw_aload_n (pc := 30) (i := 2) (x := x2) C dX0_find_30 rfl rfl ?_
    refine xw_iload (pc := 31) (i := 4) (x := x4) C dX0_find_31 rfl ?_
    refine xw_aload_n (pc := 33) (i := 0) (x := x0) C dX0_find_33 rfl rfl ?_
    obtain ⟨v11, q12, hm⟩ := xbind hm
    refine xw_getI (pc := 34) C dX0_find_34 fl_X0_18 q12 ?_
    refine xw_iload_n (pc := 37) (i := 3) (x := x3) C dX0_find_37 rfl rfl ?_
    obtain ⟨_, q13, hm⟩ := xbind hm
    obtain ⟨v14, q15, hm⟩ := xbind hm
    refine xw_callV1 (pc := 38) (As := [.int x4, .int v11, .int x3]) (st := []) C dX0_find_38 (wX4_allFit q15) dd_X4_allFit lk_X0_32 dv_X4_allFit (xco_spec q13) rfl (Nat.le_of_ble_eq_true rfl) (Nat.le_of_ble_eq_true rfl) (Nat.le_of_ble_eq_true rfl) ⟨Nat.le_refl _, Nat.le_refl _⟩ hN ?_
    refine xw_if_eqZ (pc := 41) (b := v14) (tgt := 57) C dX0_find_41 (by decide) (fun q => ?_) (fun q => ?_)
    · replace hm := xif_f q hm
      refine xw_iinc (pc := 57) (i := 4) (x := x4) (v := (x4 + (1 : Int32))) (L' := [some (.ref x0), none, some (.ref x2), some (.int x3), some (.int (x4 + (1 : Int32)))]) C dX0_find_57 rfl (congrArg (HAdd.hAdd _) xk_i_1) (Nat.le_of_ble_eq_true rfl) rfl ?_
      refine xw_goto (pc := 60) (tgt := 21) C dX0_find_60 (by decide) ?_
      obtain rfl := Option.some.inj hm
      refine xw_sub (pc := 21) _ ?_ (hc _ rfl)
      exact ⟨Or.inr rfl, Or.inl rfl, Or.inr rfl, Or.inr rfl, Or.inr rfl, trivial⟩
    · replace hm := xif_t q hm
      refine xw_aload_n (pc := 44) (i := 0) (x := x0) C dX0_find_44 rfl rfl ?_
      refine xw_dup (pc := 45) C dX0_find_45 rfl ?_
      obtain ⟨v16, q17, hm⟩ := xbind hm
      refine xw_getJ (pc := 46) C dX0_find_46 fl_X0_28 q17 ?_
      refine xw_lconst (pc := 49) (v := 1) C dX0_find_49 xk_l_1 ?_
      refine xw_iload (pc := 50) (i := 4) (x := x4) C dX0_find_50 rfl ?_
      refine xw_lshl (pc := 52) C dX0_find_52 ?_
      refine xw_lor (pc := 53) C dX0_find_53 ?_
      obtain ⟨h18, q19, hm⟩ := xbind hm
      refine xw_put (pc := 54) C dX0_find_54 fl_X0_28 q19 (fun _ => rfl) (fun _ => rfl) ?_
      refine xw_iinc (pc := 57) (i := 4) (x := x4) (v := (x4 + (1 : Int32))) (L' := [some (.ref x0), none, some (.ref x2), some (.int x3), some (.int (x4 + (1 : Int32)))]) C dX0_find_57 rfl (congrArg (HAdd.hAdd _) xk_i_1) (Nat.le_of_ble_eq_true rfl) rfl ?_
      refine xw_goto (pc := 60) (tgt := 21) C dX0_find_60 (by decide) ?_
      obtain rfl := Option.some.inj hm
      refine xw_sub (pc := 21) _ ?_ (hc _ rfl)
      exact ⟨Or.inr rfl, Or.inl rfl, Or.inr rfl, Or.inr rfl, Or.inr rfl, trivial⟩
set_option maxHeartbeats 4000000 in
set_option maxRecDepth 100000 in
theorem wX0_find {l : Launch} {n sl : Nat} {h : XH} {x0 : Nat} {x1 : Int32} {x2 : Nat} {x3 : Int32} {o : XH} (hm : fX0_find h x0 x1 x2 x3 = some o) : XM l yX0_find cX0_find 5 none 2 46 [.ref x0, .int x1, .ref x2, .int x3] h n sl none o n sl := by
  refine xm_of pnX0 [some (.ref x0), some (.int x1), some (.ref x2), some (.int x3), none] 1 rfl (Nat.le_of_ble_eq_true rfl) ?_
  intro X hT C
  replace C : XOK X RX0 cX0_find 5 "find" none 2 46 := C
  obtain ⟨-, hN, hX⟩ := hT
  unfold fX0_find at hm
  refine xw_aload_n (pc := 0) (i := 0) (x := x0) C dX0_find_0 rfl rfl ?_
  refine xw_iload_n (pc := 1) (i := 1) (x := x1) C dX0_find_1 rfl rfl ?_
  obtain ⟨h1, q2, hm⟩ := xbind hm
  refine xw_put (pc := 2) C dX0_find_2 fl_X0_18 q2 (fun _ => rfl) (fun _ => rfl) ?_
  refine xw_aload_n (pc := 5) (i := 0) (x := x0) C dX0_find_5 rfl rfl ?_
  refine xw_aload_n (pc := 6) (i := 2) (x := x2) C dX0_find_6 rfl rfl ?_
  obtain ⟨v3, q4, hm⟩ := xbind hm
  refine xw_getI (pc := 7) C dX0_find_7 fl_X0_22 q4 ?_
  obtain ⟨h5, q6, hm⟩ := xbind hm
  refine xw_put (pc := 10) C dX0_find_10 fl_X0_27 q6 (fun _ => rfl) (fun _ => rfl) ?_
  refine xw_aload_n (pc := 13) (i := 0) (x := x0) C dX0_find_13 rfl rfl ?_
  refine xw_lconst (pc := 14) (v := 0) C dX0_find_14 xk_l_0 ?_
  obtain ⟨h7, q8, hm⟩ := xbind hm
  refine xw_put (pc := 15) C dX0_find_15 fl_X0_28 q8 (fun _ => rfl) (fun _ => rfl) ?_
  refine xw_iconst (pc := 18) (v := 0) C dX0_find_18 xk_i_0 ?_
  refine xw_istore (pc := 19) (i := 4) (x := (0 : Int32)) (L' := [some (.ref x0), some (.int x1), some (.ref x2), some (.int x3), some (.int (0 : Int32))]) C dX0_find_19 (Nat.le_of_ble_eq_true rfl) rfl ?_
  obtain ⟨e20, q21, hm⟩ := xbind hm
  refine xw_sub (pc := 21) [some (.ref x0), none, some (.ref x2), some (.int x3), some (.int (0 : Int32))] ⟨Or.inr rfl, Or.inl rfl, Or.inr rfl, Or.inr rfl, Or.inr rfl, trivial⟩ ?_
  refine xloop_walk (fX0_find_B21 x0 x2 x3) (fX0_find_P21 X x0 x2 x3 n sl) (fX0_find_E21 X x0 x2 x3 n sl) (fun s' o' => fX0_find_B21_w C hN s' o') 5000 (h7, (0 : Int32)) e20 q21 ?_
  show XW X 63 [none, none, none, none, none] [] e20 n sl
  obtain rfl := Option.some.inj hm
  exact xw_return (pc := 63) C dX0_find_63 rfl hX
set_option maxHeartbeats 4000000 in
set_option maxRecDepth 100000 in
theorem wX8_findWithout {l : Launch} {n sl : Nat} {h : XH} {x0 : Nat} {x1 : Int32} {o : Nat × XH} (hm : fX8_findWithout h x0 x1 = some o) : XM l yX8_findWithout cX8_findWithout 2 (some (.object "FlashWheelReader$Candidates")) 3 70 [.ref x0, .int x1] h n sl (some (.ref o.1)) o.2 n sl := by
  refine xm_of pnX8 [some (.ref x0), some (.int x1)] 0 rfl (Nat.le_of_ble_eq_true rfl) ?_
  intro X hT C
  replace C : XOK X RX8 cX8_findWithout 2 "findWithout" (some (.object "FlashWheelReader$Candidates")) 3 70 := C
  obtain ⟨-, hN, hX⟩ := hT
  unfold fX8_findWithout at hm
  refine xw_aload_n (pc := 0) (i := 0) (x := x0) C dX8_findWithout_0 rfl rfl ?_
  obtain ⟨v1, q2, hm⟩ := xbind hm
  refine xw_getR (pc := 1) C dX8_findWithout_1 fl_X8_40 q2 ?_
  refine xw_aload_n (pc := 4) (i := 0) (x := x0) C dX8_findWithout_4 rfl rfl ?_
  obtain ⟨v3, q4, hm⟩ := xbind hm
  refine xw_getR (pc := 5) C dX8_findWithout_5 fl_X8_10 q4 ?_
  obtain ⟨v5, q6, hm⟩ := xbind hm
  refine xw_getR (pc := 8) C dX8_findWithout_8 fl_X8_67 q6 ?_
  obtain ⟨_, q7, hm⟩ := xbind hm
  obtain ⟨v8, q9, hm⟩ := xbind hm
  refine xw_callV1 (pc := 11) (As := []) (st := [.ref v1]) C dX8_findWithout_11 (wX6_measure q9) dd_X6_measure lk_X8_156 dv_X6_measure (xco_spec q7) rfl (Nat.le_of_ble_eq_true rfl) (Nat.le_of_ble_eq_true rfl) (Nat.le_of_ble_eq_true rfl) ⟨Nat.le_refl _, Nat.le_refl _⟩ hN ?_
  refine xw_aload_n (pc := 14) (i := 0) (x := x0) C dX8_findWithout_14 rfl rfl ?_
  obtain ⟨v10, q11, hm⟩ := xbind hm
  refine xw_getR (pc := 15) C dX8_findWithout_15 fl_X8_10 q11 ?_
  obtain ⟨v12, q13, hm⟩ := xbind hm
  refine xw_getR (pc := 18) C dX8_findWithout_18 fl_X8_181 q13 ?_
  refine xw_iload_n (pc := 21) (i := 1) (x := x1) C dX8_findWithout_21 rfl rfl ?_
  obtain ⟨_, q14, hm⟩ := xbind hm
  obtain ⟨h15, q16, hm⟩ := xbind hm
  refine xw_callV0 (pc := 22) (As := [.int v8, .ref v12, .int x1]) (st := []) C dX8_findWithout_22 (wX0_find q16) dd_X0_find lk_X8_322 dv_X0_find (xco_spec q14) rfl (Nat.le_of_ble_eq_true rfl) (Nat.le_of_ble_eq_true rfl) (Nat.le_of_ble_eq_true rfl) ⟨Nat.le_refl _, Nat.le_refl _⟩ hN ?_
  refine xw_aload_n (pc := 25) (i := 0) (x := x0) C dX8_findWithout_25 rfl rfl ?_
  obtain ⟨v17, q18, hm⟩ := xbind hm
  refine xw_getR (pc := 26) C dX8_findWithout_26 fl_X8_40 q18 ?_
  obtain rfl := Option.some.inj hm
  exact xw_areturn (pc := 29) (v := some v17) C dX8_findWithout_29 rfl (Or.inl ⟨_, rfl⟩) hX
set_option maxHeartbeats 4000000 in
set_option maxRecDepth 100000 in
theorem wX8_within {l : Launch} {n sl : Nat} {h : XH} {x0 : Int32} {x1 : Int32} {x2 : Int32} {o : Bool} (hm : fX8_within x0 x1 x2 = some o) : XM l yX8_within cX8_within 3 (some .boolean) 0 0 [.int x0, .int x1, .int x2] h n sl (some (.int (xbi o))) h n sl := by
  refine xm_of pnX8 [some (.int x0), some (.int x1), some (.int x2)] 0 rfl (Nat.le_of_ble_eq_true rfl) ?_
  intro X hT C
  replace C : XOK X RX8 cX8_within 3 "within" (some .boolean) 0 0 := C
  obtain ⟨-, hN, hX⟩ := hT
  unfold fX8_within at hm
  refine xw_iload_n (pc := 0) (i := 0) (x := x0) C dX8_within_0 rfl rfl ?_
  refine xw_iload_n (pc := 1) (i := 1) (x := x1) C dX8_within_1 rfl rfl ?_
  refine xw_icmp_lt (pc := 2) (tgt := 14) C dX8_within_2 (by decide) (fun q => ?_) (fun q => ?_)
  · replace hm := xif_t q hm
    refine xw_iconst (pc := 14) (v := 0) C dX8_within_14 xk_i_0 ?_
    obtain rfl := Option.some.inj hm
    exact xw_zreturn (pc := 15) (v := xbi false) C dX8_within_15 rfl (xbi_nar _) hX
  · replace hm := xif_f q hm
    refine xw_iload_n (pc := 5) (i := 0) (x := x0) C dX8_within_5 rfl rfl ?_
    refine xw_iload_n (pc := 6) (i := 2) (x := x2) C dX8_within_6 rfl rfl ?_
    refine xw_icmp_gt (pc := 7) (tgt := 14) C dX8_within_7 (by decide) (fun q => ?_) (fun q => ?_)
    · replace hm := xif_t q hm
      refine xw_iconst (pc := 14) (v := 0) C dX8_within_14 xk_i_0 ?_
      obtain rfl := Option.some.inj hm
      exact xw_zreturn (pc := 15) (v := xbi false) C dX8_within_15 rfl (xbi_nar _) hX
    · replace hm := xif_f q hm
      refine xw_iconst (pc := 10) (v := 1) C dX8_within_10 xk_i_1 ?_
      refine xw_goto (pc := 11) (tgt := 15) C dX8_within_11 (by decide) ?_
      obtain rfl := Option.some.inj hm
      exact xw_zreturn (pc := 15) (v := xbi true) C dX8_within_15 rfl (xbi_nar _) hX
set_option maxHeartbeats 4000000 in
set_option maxRecDepth 100000 in
theorem wX8_isReading {l : Launch} {n sl : Nat} {h : XH} {x0 : Nat} {x1 : Int32} {o : Bool} (hm : fX8_isReading h x0 x1 = some o) : XM l yX8_isReading cX8_isReading 2 (some .boolean) 1 22 [.ref x0, .int x1] h n sl (some (.int (xbi o))) h n sl := by
  refine xm_of pnX8 [some (.ref x0), some (.int x1)] 0 rfl (Nat.le_of_ble_eq_true rfl) ?_
  intro X hT C
  replace C : XOK X RX8 cX8_isReading 2 "isReading" (some .boolean) 1 22 := C
  obtain ⟨-, hN, hX⟩ := hT
  unfold fX8_isReading at hm
  refine xw_iload_n (pc := 0) (i := 1) (x := x1) C dX8_isReading_0 rfl rfl ?_
  refine xw_iconst (pc := 1) (v := 0) C dX8_isReading_1 xk_i_0 ?_
  refine xw_aload_n (pc := 2) (i := 0) (x := x0) C dX8_isReading_2 rfl rfl ?_
  obtain ⟨v1, q2, hm⟩ := xbind hm
  refine xw_getR (pc := 3) C dX8_isReading_3 fl_X8_10 q2 ?_
  obtain ⟨v3, q4, hm⟩ := xbind hm
  refine xw_getR (pc := 6) C dX8_isReading_6 fl_X8_181 q4 ?_
  obtain ⟨v5, q6, hm⟩ := xbind hm
  refine xw_getI (pc := 9) C dX8_isReading_9 fl_X8_190 q6 ?_
  refine xw_iconst (pc := 12) (v := 1) C dX8_isReading_12 xk_i_1 ?_
  refine xw_isub (pc := 13) C dX8_isReading_13 ?_
  obtain ⟨v7, q8, hm⟩ := xbind hm
  refine xw_callS1 (pc := 14) (As := [.int x1, .int (0 : Int32), .int (v5 - (1 : Int32))]) (st := []) C dX8_isReading_14 (wX8_within q8) dd_X8_within lk_X8_44 ds_X8_within rfl (Nat.le_of_ble_eq_true rfl) (Nat.le_of_ble_eq_true rfl) (Nat.le_of_ble_eq_true rfl) ⟨Nat.le_refl _, Nat.le_refl _⟩ hN ?_
  obtain rfl := Option.some.inj hm
  exact xw_zreturn (pc := 17) (v := xbi v7) C dX8_isReading_17 rfl (xbi_nar _) hX
set_option maxHeartbeats 4000000 in
set_option maxRecDepth 100000 in
theorem wX8_reading {l : Launch} {n sl : Nat} {h : XH} {x0 : Nat} {x1 : Int32} {x2 : Int32} {o : Int32 × XH} (hm : fX8_reading h x0 x1 x2 = some o) : XM l yX8_reading cX8_reading 3 (some .int) 4 91 [.ref x0, .int x1, .int x2] h n sl (some (.int o.1)) o.2 n sl := by
  refine xm_of pnX8 [some (.ref x0), some (.int x1), some (.int x2)] 0 rfl (Nat.le_of_ble_eq_true rfl) ?_
  intro X hT C
  replace C : XOK X RX8 cX8_reading 3 "reading" (some .int) 4 91 := C
  obtain ⟨-, hN, hX⟩ := hT
  unfold fX8_reading at hm
  refine xw_aload_n (pc := 0) (i := 0) (x := x0) C dX8_reading_0 rfl rfl ?_
  refine xw_iload_n (pc := 1) (i := 1) (x := x1) C dX8_reading_1 rfl rfl ?_
  obtain ⟨_, q1, hm⟩ := xbind hm
  obtain ⟨v2, q3, hm⟩ := xbind hm
  refine xw_callV1 (pc := 2) (As := [.int x1]) (st := []) C dX8_reading_2 (wX8_isReading q3) dd_X8_isReading lk_X8_178 dv_X8_isReading (xco_spec q1) rfl (Nat.le_of_ble_eq_true rfl) (Nat.le_of_ble_eq_true rfl) (Nat.le_of_ble_eq_true rfl) ⟨Nat.le_refl _, Nat.le_refl _⟩ hN ?_
  refine xw_if_eqZ (pc := 5) (b := v2) (tgt := 17) C dX8_reading_5 (by decide) (fun q => ?_) (fun q => ?_)
  · replace hm := xif_f q hm
    refine xw_sipush (pc := 17) (v := -1001) C dX8_reading_17 xk_s_m1001 ?_
    obtain rfl := Option.some.inj hm
    exact xw_ireturn (pc := 20) C dX8_reading_20 rfl hX
  · replace hm := xif_t q hm
    refine xw_iload_n (pc := 8) (i := 2) (x := x2) C dX8_reading_8 rfl rfl ?_
    refine xw_iconst (pc := 9) (v := 0) C dX8_reading_9 xk_i_0 ?_
    refine xw_iconst (pc := 10) (v := 2) C dX8_reading_10 xk_i_2 ?_
    obtain ⟨v4, q5, hm⟩ := xbind hm
    refine xw_callS1 (pc := 11) (As := [.int x2, .int (0 : Int32), .int (2 : Int32)]) (st := []) C dX8_reading_11 (wX8_within q5) dd_X8_within lk_X8_44 ds_X8_within rfl (Nat.le_of_ble_eq_true rfl) (Nat.le_of_ble_eq_true rfl) (Nat.le_of_ble_eq_true rfl) ⟨Nat.le_refl _, Nat.le_refl _⟩ hN ?_
    refine xw_if_neZ (pc := 14) (b := v4) (tgt := 21) C dX8_reading_14 (by decide) (fun q => ?_) (fun q => ?_)
    · replace hm := xif_t q hm
      refine xw_iload_n (pc := 21) (i := 2) (x := x2) C dX8_reading_21 rfl rfl ?_
      by_cases q6 : x2 = 0
      · replace hm := xif_t q6 hm
        refine xw_look (pc := 22) (off := 26) (tgt := 48) C dX8_reading_22 (by decide) (by rw [q6]; rfl) (by decide) ?_
        refine xw_aload_n (pc := 48) (i := 0) (x := x0) C dX8_reading_48 rfl rfl ?_
        obtain ⟨v8, q9, hm⟩ := xbind hm
        refine xw_getR (pc := 49) C dX8_reading_49 fl_X8_10 q9 ?_
        obtain ⟨v10, q11, hm⟩ := xbind hm
        refine xw_getR (pc := 52) C dX8_reading_52 fl_X8_181 q11 ?_
        obtain ⟨v12, q13, hm⟩ := xbind hm
        refine xw_getR (pc := 55) C dX8_reading_55 fl_X8_193 q13 ?_
        refine xw_iload_n (pc := 58) (i := 1) (x := x1) C dX8_reading_58 rfl rfl ?_
        obtain ⟨v14, q15, hm⟩ := xbind hm
        refine xw_callS1 (pc := 59) (As := [.ref v12, .int x1]) (st := []) C dX8_reading_59 (wX8_at q15) dd_X8_at lk_X8_196 ds_X8_at rfl (Nat.le_of_ble_eq_true rfl) (Nat.le_of_ble_eq_true rfl) (Nat.le_of_ble_eq_true rfl) ⟨Nat.le_refl _, Nat.le_refl _⟩ hN ?_
        obtain rfl := Option.some.inj hm
        exact xw_ireturn (pc := 62) C dX8_reading_62 rfl hX
      · replace hm := xif_f q6 hm
        by_cases q7 : x2 = 1
        · replace hm := xif_t q7 hm
          refine xw_look (pc := 22) (off := 41) (tgt := 63) C dX8_reading_22 (by decide) (by rw [q7]; rfl) (by decide) ?_
          refine xw_aload_n (pc := 63) (i := 0) (x := x0) C dX8_reading_63 rfl rfl ?_
          obtain ⟨v16, q17, hm⟩ := xbind hm
          refine xw_getR (pc := 64) C dX8_reading_64 fl_X8_10 q17 ?_
          obtain ⟨v18, q19, hm⟩ := xbind hm
          refine xw_getR (pc := 67) C dX8_reading_67 fl_X8_181 q19 ?_
          obtain ⟨v20, q21, hm⟩ := xbind hm
          refine xw_getR (pc := 70) C dX8_reading_70 fl_X8_200 q21 ?_
          refine xw_iload_n (pc := 73) (i := 1) (x := x1) C dX8_reading_73 rfl rfl ?_
          obtain ⟨v22, q23, hm⟩ := xbind hm
          refine xw_callS1 (pc := 74) (As := [.ref v20, .int x1]) (st := []) C dX8_reading_74 (wX8_at q23) dd_X8_at lk_X8_196 ds_X8_at rfl (Nat.le_of_ble_eq_true rfl) (Nat.le_of_ble_eq_true rfl) (Nat.le_of_ble_eq_true rfl) ⟨Nat.le_refl _, Nat.le_refl _⟩ hN ?_
          obtain rfl := Option.some.inj hm
          exact xw_ireturn (pc := 77) C dX8_reading_77 rfl hX
        · replace hm := xif_f q7 hm
          refine xw_look (pc := 22) (off := 56) (tgt := 78) C dX8_reading_22 (by decide) (by show Op.lookupswitch.offset [(0, 26), (1, 41)] 56 _ = _; rw [lv_osw q6 (by decide), lv_osw q7 (by decide)]; rfl) (by decide) ?_
          refine xw_aload_n (pc := 78) (i := 0) (x := x0) C dX8_reading_78 rfl rfl ?_
          refine xw_iload_n (pc := 79) (i := 1) (x := x1) C dX8_reading_79 rfl rfl ?_
          obtain ⟨_, q24, hm⟩ := xbind hm
          obtain ⟨v25, q26, hm⟩ := xbind hm
          refine xw_callV1 (pc := 80) (As := [.int x1]) (st := []) C dX8_reading_80 (wX8_findWithout q26) dd_X8_findWithout lk_X8_203 dv_X8_findWithout (xco_spec q24) rfl (Nat.le_of_ble_eq_true rfl) (Nat.le_of_ble_eq_true rfl) (Nat.le_of_ble_eq_true rfl) ⟨Nat.le_refl _, Nat.le_refl _⟩ hN ?_
          obtain ⟨_, q27, hm⟩ := xbind hm
          obtain ⟨v28, q29, hm⟩ := xbind hm
          refine xw_callV1 (pc := 83) (As := []) (st := []) C dX8_reading_83 (wX0_number q29) dd_X0_number lk_X8_207 dv_X0_number (xco_spec q27) rfl (Nat.le_of_ble_eq_true rfl) (Nat.le_of_ble_eq_true rfl) (Nat.le_of_ble_eq_true rfl) ⟨Nat.le_refl _, Nat.le_refl _⟩ hN ?_
          obtain rfl := Option.some.inj hm
          exact xw_ireturn (pc := 86) C dX8_reading_86 rfl hX
    · replace hm := xif_f q hm
      refine xw_sipush (pc := 17) (v := -1001) C dX8_reading_17 xk_s_m1001 ?_
      obtain rfl := Option.some.inj hm
      exact xw_ireturn (pc := 20) C dX8_reading_20 rfl hX
set_option maxHeartbeats 4000000 in
set_option maxRecDepth 100000 in
theorem wX2_tickOf {l : Launch} {n sl : Nat} {h : XH} {x0 : Nat} {x1 : Int32} {o : Int32} (hm : fX2_tickOf h x0 x1 = some o) : XM l yX2_tickOf cX2_tickOf 2 (some .int) 0 0 [.ref x0, .int x1] h n sl (some (.int o)) h n sl := by
  refine xm_of pnX2 [some (.ref x0), some (.int x1)] 0 rfl (Nat.le_of_ble_eq_true rfl) ?_
  intro X hT C
  replace C : XOK X RX2 cX2_tickOf 2 "tickOf" (some .int) 0 0 := C
  obtain ⟨-, hN, hX⟩ := hT
  unfold fX2_tickOf at hm
  refine xw_aload_n (pc := 0) (i := 0) (x := x0) C dX2_tickOf_0 rfl rfl ?_
  obtain ⟨v1, q2, hm⟩ := xbind hm
  refine xw_getI (pc := 1) C dX2_tickOf_1 fl_X2_15 q2 ?_
  refine xw_iload_n (pc := 4) (i := 1) (x := x1) C dX2_tickOf_4 rfl rfl ?_
  refine xw_aload_n (pc := 5) (i := 0) (x := x0) C dX2_tickOf_5 rfl rfl ?_
  obtain ⟨v3, q4, hm⟩ := xbind hm
  refine xw_getI (pc := 6) C dX2_tickOf_6 fl_X2_9 q4 ?_
  refine xw_imul (pc := 9) C dX2_tickOf_9 ?_
  refine xw_iadd (pc := 10) C dX2_tickOf_10 ?_
  obtain rfl := Option.some.inj hm
  exact xw_ireturn (pc := 11) C dX2_tickOf_11 rfl hX
def fX6_turnAt_P16 (X : XCtx) (h : XH) (x0 : Nat) (x1 : Int32) (n sl : Nat) (s : (Int32 × Int32 × Int32 × Int32)) : Prop := XW X 16 [some (.ref x0), some (.int x1), some (.int s.1), some (.int s.2.1), some (.int s.2.2.1), some (.int s.2.2.2)] [] h n sl
def fX6_turnAt_E16 (X : XCtx) (h : XH) (x0 : Nat) (x1 : Int32) (n sl : Nat) (e : (Int32 × Int32 × Int32)) : Prop := XW X 82 [none, some (.int x1), some (.int e.1), some (.int e.2.1), some (.int e.2.2), none] [] h n sl
set_option maxHeartbeats 4000000 in
set_option maxRecDepth 100000 in
theorem fX6_turnAt_B16_w {X : XCtx} (C : XOK X RX6 cX6_turnAt 6 "turnAt" (some .int) 1 21) {n sl : Nat} (hN : XN X n sl) {h : XH} {x0 : Nat} {x1 : Int32} (s : (Int32 × Int32 × Int32 × Int32)) (o : (Int32 × Int32 × Int32 × Int32) ⊕ (Int32 × Int32 × Int32)) (hm : fX6_turnAt_B16 h x0 x1 s = some o) (hc : ∀ s', o = .inl s' → fX6_turnAt_P16 X h x0 x1 n sl s') (he : ∀ e', o = .inr e' → fX6_turnAt_E16 X h x0 x1 n sl e') : fX6_turnAt_P16 X h x0 x1 n sl s := by
  obtain ⟨x2, x3, x4, x5⟩ := s
  show XW X 16 [some (.ref x0), some (.int x1), some (.int x2), some (.int x3), some (.int x4), some (.int x5)] [] h n sl
  replace hm : fX6_turnAt_b16 h x0 x1 x2 x3 x4 x5 = some o := hm
  unfold fX6_turnAt_b16 at hm
  refine xw_iload (pc := 16) (i := 5) (x := x5) C dX6_turnAt_16 rfl ?_
  refine xw_aload_n (pc := 18) (i := 0) (x := x0) C dX6_turnAt_18 rfl rfl ?_
  obtain ⟨v5, q6, hm⟩ := xbind hm
  refine xw_getI (pc := 19) C dX6_turnAt_19 fl_X6_39 q6 ?_
  refine xw_icmp_ge (pc := 22) (tgt := 82) C dX6_turnAt_22 (by decide) (fun q => ?_) (fun q => ?_)
  · replace hm := xif_t q hm
    obtain rfl := Option.some.inj hm
    refine xw_sub (pc := 82) _ ?_ (he _ rfl)
    exact ⟨Or.inl rfl, Or.inr rfl, Or.inr rfl, Or.inr rfl, Or.inr rfl, Or.inl rfl, trivial⟩
  · replace hm := xif_f q hm
    refine xw_aload_n (pc := 25) (i := 0) (x := x0) C dX6_turnAt_25 rfl rfl ?_
    obtain ⟨v7, q8, hm⟩ := xbind hm
    refine xw_getR (pc := 26) C dX6_turnAt_26 fl_X6_15 q8 ?_
    refine xw_iload (pc := 29) (i := 5) (x := x5) C dX6_turnAt_29 rfl ?_
    obtain ⟨v9, q10, hm⟩ := xbind hm
    refine xw_callSN1 (pc := 31) (As := [.ref v7, .int x5]) (st := []) C dX6_turnAt_31 (wX8_at q10) dd_X8_at lk_X6_42 ds_X8_at rfl (Nat.le_of_ble_eq_true rfl) (Nat.le_of_ble_eq_true rfl) (Nat.le_of_ble_eq_true rfl) ⟨Nat.le_refl _, Nat.le_refl _⟩ hN ?_
    refine xw_iload_n (pc := 34) (i := 1) (x := x1) C dX6_turnAt_34 rfl rfl ?_
    refine xw_icmp_ge (pc := 35) (tgt := 82) C dX6_turnAt_35 (by decide) (fun q => ?_) (fun q => ?_)
    · replace hm := xif_t q hm
      obtain rfl := Option.some.inj hm
      refine xw_sub (pc := 82) _ ?_ (he _ rfl)
      exact ⟨Or.inl rfl, Or.inr rfl, Or.inr rfl, Or.inr rfl, Or.inr rfl, Or.inl rfl, trivial⟩
    · replace hm := xif_f q hm
      refine xw_iload_n (pc := 38) (i := 2) (x := x2) C dX6_turnAt_38 rfl rfl ?_
      refine xw_iload (pc := 39) (i := 4) (x := x4) C dX6_turnAt_39 rfl ?_
      refine xw_aload_n (pc := 41) (i := 0) (x := x0) C dX6_turnAt_41 rfl rfl ?_
      obtain ⟨v11, q12, hm⟩ := xbind hm
      refine xw_getR (pc := 42) C dX6_turnAt_42 fl_X6_15 q12 ?_
      refine xw_iload (pc := 45) (i := 5) (x := x5) C dX6_turnAt_45 rfl ?_
      obtain ⟨v13, q14, hm⟩ := xbind hm
      refine xw_callSN1 (pc := 47) (As := [.ref v11, .int x5]) (st := [.int x4, .int x2]) C dX6_turnAt_47 (wX8_at q14) dd_X8_at lk_X6_42 ds_X8_at rfl (Nat.le_of_ble_eq_true rfl) (Nat.le_of_ble_eq_true rfl) (Nat.le_of_ble_eq_true rfl) ⟨Nat.le_refl _, Nat.le_refl _⟩ hN ?_
      refine xw_iload_n (pc := 50) (i := 3) (x := x3) C dX6_turnAt_50 rfl rfl ?_
      refine xw_isub (pc := 51) C dX6_turnAt_51 ?_
      refine xw_imul (pc := 52) C dX6_turnAt_52 ?_
      refine xw_iadd (pc := 53) C dX6_turnAt_53 ?_
      refine xw_istore_n (pc := 54) (i := 2) (x := (x2 + (x4 * (v13 - x3)))) (L' := [some (.ref x0), some (.int x1), some (.int (x2 + (x4 * (v13 - x3)))), some (.int x3), some (.int x4), some (.int x5)]) C dX6_turnAt_54 rfl (Nat.le_of_ble_eq_true rfl) rfl ?_
      refine xw_aload_n (pc := 55) (i := 0) (x := x0) C dX6_turnAt_55 rfl rfl ?_
      obtain ⟨v15, q16, hm⟩ := xbind hm
      refine xw_getR (pc := 56) C dX6_turnAt_56 fl_X6_15 q16 ?_
      refine xw_iload (pc := 59) (i := 5) (x := x5) C dX6_turnAt_59 rfl ?_
      obtain ⟨v17, q18, hm⟩ := xbind hm
      refine xw_callSN1 (pc := 61) (As := [.ref v15, .int x5]) (st := []) C dX6_turnAt_61 (wX8_at q18) dd_X8_at lk_X6_42 ds_X8_at rfl (Nat.le_of_ble_eq_true rfl) (Nat.le_of_ble_eq_true rfl) (Nat.le_of_ble_eq_true rfl) ⟨Nat.le_refl _, Nat.le_refl _⟩ hN ?_
      refine xw_istore_n (pc := 64) (i := 3) (x := v17) (L' := [some (.ref x0), some (.int x1), some (.int (x2 + (x4 * (v13 - x3)))), some (.int v17), some (.int x4), some (.int x5)]) C dX6_turnAt_64 rfl (Nat.le_of_ble_eq_true rfl) rfl ?_
      refine xw_aload_n (pc := 65) (i := 0) (x := x0) C dX6_turnAt_65 rfl rfl ?_
      obtain ⟨v19, q20, hm⟩ := xbind hm
      refine xw_getR (pc := 66) C dX6_turnAt_66 fl_X6_18 q20 ?_
      refine xw_iload (pc := 69) (i := 5) (x := x5) C dX6_turnAt_69 rfl ?_
      obtain ⟨v21, q22, hm⟩ := xbind hm
      refine xw_callSN1 (pc := 71) (As := [.ref v19, .int x5]) (st := []) C dX6_turnAt_71 (wX8_at q22) dd_X8_at lk_X6_42 ds_X8_at rfl (Nat.le_of_ble_eq_true rfl) (Nat.le_of_ble_eq_true rfl) (Nat.le_of_ble_eq_true rfl) ⟨Nat.le_refl _, Nat.le_refl _⟩ hN ?_
      refine xw_istore (pc := 74) (i := 4) (x := v21) (L' := [some (.ref x0), some (.int x1), some (.int (x2 + (x4 * (v13 - x3)))), some (.int v17), some (.int v21), some (.int x5)]) C dX6_turnAt_74 (Nat.le_of_ble_eq_true rfl) rfl ?_
      refine xw_iinc (pc := 76) (i := 5) (x := x5) (v := (x5 + (1 : Int32))) (L' := [some (.ref x0), some (.int x1), some (.int (x2 + (x4 * (v13 - x3)))), some (.int v17), some (.int v21), some (.int (x5 + (1 : Int32)))]) C dX6_turnAt_76 rfl (congrArg (HAdd.hAdd _) xk_i_1) (Nat.le_of_ble_eq_true rfl) rfl ?_
      refine xw_goto (pc := 79) (tgt := 16) C dX6_turnAt_79 (by decide) ?_
      obtain rfl := Option.some.inj hm
      refine xw_sub (pc := 16) _ ?_ (hc _ rfl)
      exact ⟨Or.inr rfl, Or.inr rfl, Or.inr rfl, Or.inr rfl, Or.inr rfl, Or.inr rfl, trivial⟩
set_option maxHeartbeats 4000000 in
set_option maxRecDepth 100000 in
theorem wX6_turnAt {l : Launch} {n sl : Nat} {h : XH} {x0 : Nat} {x1 : Int32} {o : Int32} (hm : fX6_turnAt h x0 x1 = some o) : XM l yX6_turnAt cX6_turnAt 6 (some .int) 1 21 [.ref x0, .int x1] h n sl (some (.int o)) h n sl := by
  refine xm_of pnX6 [some (.ref x0), some (.int x1), none, none, none, none] 4 rfl (Nat.le_of_ble_eq_true rfl) ?_
  intro X hT C
  replace C : XOK X RX6 cX6_turnAt 6 "turnAt" (some .int) 1 21 := C
  obtain ⟨-, hN, hX⟩ := hT
  unfold fX6_turnAt at hm
  refine xw_aload_n (pc := 0) (i := 0) (x := x0) C dX6_turnAt_0 rfl rfl ?_
  obtain ⟨v1, q2, hm⟩ := xbind hm
  refine xw_getI (pc := 1) C dX6_turnAt_1 fl_X6_33 q2 ?_
  refine xw_istore_n (pc := 4) (i := 2) (x := v1) (L' := [some (.ref x0), some (.int x1), some (.int v1), none, none, none]) C dX6_turnAt_4 rfl (Nat.le_of_ble_eq_true rfl) rfl ?_
  refine xw_iconst (pc := 5) (v := 0) C dX6_turnAt_5 xk_i_0 ?_
  refine xw_istore_n (pc := 6) (i := 3) (x := (0 : Int32)) (L' := [some (.ref x0), some (.int x1), some (.int v1), some (.int (0 : Int32)), none, none]) C dX6_turnAt_6 rfl (Nat.le_of_ble_eq_true rfl) rfl ?_
  refine xw_aload_n (pc := 7) (i := 0) (x := x0) C dX6_turnAt_7 rfl rfl ?_
  obtain ⟨v3, q4, hm⟩ := xbind hm
  refine xw_getI (pc := 8) C dX6_turnAt_8 fl_X6_36 q4 ?_
  refine xw_istore (pc := 11) (i := 4) (x := v3) (L' := [some (.ref x0), some (.int x1), some (.int v1), some (.int (0 : Int32)), some (.int v3), none]) C dX6_turnAt_11 (Nat.le_of_ble_eq_true rfl) rfl ?_
  refine xw_iconst (pc := 13) (v := 0) C dX6_turnAt_13 xk_i_0 ?_
  refine xw_istore (pc := 14) (i := 5) (x := (0 : Int32)) (L' := [some (.ref x0), some (.int x1), some (.int v1), some (.int (0 : Int32)), some (.int v3), some (.int (0 : Int32))]) C dX6_turnAt_14 (Nat.le_of_ble_eq_true rfl) rfl ?_
  obtain ⟨e23, q24, hm⟩ := xbind hm
  refine xw_sub (pc := 16) [some (.ref x0), some (.int x1), some (.int v1), some (.int (0 : Int32)), some (.int v3), some (.int (0 : Int32))] ⟨Or.inr rfl, Or.inr rfl, Or.inr rfl, Or.inr rfl, Or.inr rfl, Or.inr rfl, trivial⟩ ?_
  refine xloop_walk (fX6_turnAt_B16 h x0 x1) (fX6_turnAt_P16 X h x0 x1 n sl) (fX6_turnAt_E16 X h x0 x1 n sl) (fun s' o' => fX6_turnAt_B16_w C hN s' o') 5000 (v1, (0 : Int32), v3, (0 : Int32)) e23 q24 ?_
  show XW X 82 [none, some (.int x1), some (.int e23.1), some (.int e23.2.1), some (.int e23.2.2), none] [] h n sl
  refine xw_iload_n (pc := 82) (i := 2) (x := e23.1) C dX6_turnAt_82 rfl rfl ?_
  refine xw_iload (pc := 83) (i := 4) (x := e23.2.2) C dX6_turnAt_83 rfl ?_
  refine xw_iload_n (pc := 85) (i := 1) (x := x1) C dX6_turnAt_85 rfl rfl ?_
  refine xw_iload_n (pc := 86) (i := 3) (x := e23.2.1) C dX6_turnAt_86 rfl rfl ?_
  refine xw_isub (pc := 87) C dX6_turnAt_87 ?_
  refine xw_imul (pc := 88) C dX6_turnAt_88 ?_
  refine xw_iadd (pc := 89) C dX6_turnAt_89 ?_
  obtain rfl := Option.some.inj hm
  exact xw_ireturn (pc := 90) C dX6_turnAt_90 rfl hX
def fX5_earliestAlike_P31 (X : XCtx) (h : XH) (x0 : Nat) (x1 : Int32) (x2 : Int32) (x3 : Int32) (n sl : Nat) (s : Int32) : Prop := XW X 31 [some (.ref x0), some (.int x1), some (.int x2), some (.int x3), some (.int s)] [] h n sl
def fX5_earliestAlike_E31 (X : XCtx) (h : XH) (x0 : Nat) (x1 : Int32) (x2 : Int32) (x3 : Int32) (n sl : Nat) (e : (Int32 ⊕ Unit)) : Prop := match e with
  | .inl e => XW X 61 [none, none, none, none, some (.int e)] [] h n sl
  | .inr e => XW X 70 [none, some (.int x1), none, none, none] [] h n sl
set_option maxHeartbeats 4000000 in
set_option maxRecDepth 100000 in
theorem fX5_earliestAlike_B31_w {X : XCtx} (C : XOK X RX5 cX5_earliestAlike 5 "earliestAlike" (some .int) 3 64) {n sl : Nat} (hN : XN X n sl) {h : XH} {x0 : Nat} {x1 : Int32} {x2 : Int32} {x3 : Int32} (s : Int32) (o : Int32 ⊕ (Int32 ⊕ Unit)) (hm : fX5_earliestAlike_B31 h x0 x1 x2 x3 s = some o) (hc : ∀ s', o = .inl s' → fX5_earliestAlike_P31 X h x0 x1 x2 x3 n sl s') (he : ∀ e', o = .inr e' → fX5_earliestAlike_E31 X h x0 x1 x2 x3 n sl e') : fX5_earliestAlike_P31 X h x0 x1 x2 x3 n sl s := by
  revert s; intro x4 hm
  show XW X 31 [some (.ref x0), some (.int x1), some (.int x2), some (.int x3), some (.int x4)] [] h n sl
  replace hm : fX5_earliestAlike_b31 h x0 x1 x2 x3 x4 = some o := hm
  unfold fX5_earliestAlike_b31 at hm
  refine xw_iload (pc := 31) (i := 4) (x := x4) C dX5_earliestAlike_31 rfl ?_
  refine xw_iload_n (pc := 33) (i := 1) (x := x1) C dX5_earliestAlike_33 rfl rfl ?_
  refine xw_icmp_ge (pc := 34) (tgt := 70) C dX5_earliestAlike_34 (by decide) (fun q => ?_) (fun q => ?_)
  · replace hm := xif_t q hm
    obtain rfl := Option.some.inj hm
    refine xw_sub (pc := 70) _ ?_ (he _ rfl)
    exact ⟨Or.inl rfl, Or.inr rfl, Or.inl rfl, Or.inl rfl, Or.inl rfl, trivial⟩
  · replace hm := xif_f q hm
    refine xw_aload_n (pc := 37) (i := 0) (x := x0) C dX5_earliestAlike_37 rfl rfl ?_
    obtain ⟨v18, q19, hm⟩ := xbind hm
    refine xw_getR (pc := 38) C dX5_earliestAlike_38 fl_X5_10 q19 ?_
    refine xw_aload_n (pc := 41) (i := 0) (x := x0) C dX5_earliestAlike_41 rfl rfl ?_
    obtain ⟨v20, q21, hm⟩ := xbind hm
    refine xw_getR (pc := 42) C dX5_earliestAlike_42 fl_X5_19 q21 ?_
    refine xw_iload (pc := 45) (i := 4) (x := x4) C dX5_earliestAlike_45 rfl ?_
    obtain ⟨_, q22, hm⟩ := xbind hm
    obtain ⟨v23, q24, hm⟩ := xbind hm
    refine xw_callV1 (pc := 47) (As := [.int x4]) (st := [.ref v18]) C dX5_earliestAlike_47 (wX2_tickOf q24) dd_X2_tickOf lk_X5_54 dv_X2_tickOf (xco_spec q22) rfl (Nat.le_of_ble_eq_true rfl) (Nat.le_of_ble_eq_true rfl) (Nat.le_of_ble_eq_true rfl) ⟨Nat.le_refl _, Nat.le_refl _⟩ hN ?_
    obtain ⟨_, q25, hm⟩ := xbind hm
    obtain ⟨v26, q27, hm⟩ := xbind hm
    refine xw_callV1 (pc := 50) (As := [.int v23]) (st := []) C dX5_earliestAlike_50 (wX6_turnAt q27) dd_X6_turnAt lk_X5_58 dv_X6_turnAt (xco_spec q25) rfl (Nat.le_of_ble_eq_true rfl) (Nat.le_of_ble_eq_true rfl) (Nat.le_of_ble_eq_true rfl) ⟨Nat.le_refl _, Nat.le_refl _⟩ hN ?_
    refine xw_iload_n (pc := 53) (i := 2) (x := x2) C dX5_earliestAlike_53 rfl rfl ?_
    obtain ⟨v28, q29, hm⟩ := xbind hm
    refine xw_callSN1 (pc := 54) (As := [.int v26, .int x2]) (st := []) C dX5_earliestAlike_54 (wX8_mod q29) dd_X8_mod lk_X5_61 ds_X8_mod rfl (Nat.le_of_ble_eq_true rfl) (Nat.le_of_ble_eq_true rfl) (Nat.le_of_ble_eq_true rfl) ⟨Nat.le_refl _, Nat.le_refl _⟩ hN ?_
    refine xw_iload_n (pc := 57) (i := 3) (x := x3) C dX5_earliestAlike_57 rfl rfl ?_
    refine xw_icmp_ne (pc := 58) (tgt := 64) C dX5_earliestAlike_58 (by decide) (fun q => ?_) (fun q => ?_)
    · replace hm := xif_f q hm
      refine xw_iinc (pc := 64) (i := 4) (x := x4) (v := (x4 + (1 : Int32))) (L' := [some (.ref x0), some (.int x1), some (.int x2), some (.int x3), some (.int (x4 + (1 : Int32)))]) C dX5_earliestAlike_64 rfl (congrArg (HAdd.hAdd _) xk_i_1) (Nat.le_of_ble_eq_true rfl) rfl ?_
      refine xw_goto (pc := 67) (tgt := 31) C dX5_earliestAlike_67 (by decide) ?_
      obtain rfl := Option.some.inj hm
      refine xw_sub (pc := 31) _ ?_ (hc _ rfl)
      exact ⟨Or.inr rfl, Or.inr rfl, Or.inr rfl, Or.inr rfl, Or.inr rfl, trivial⟩
    · replace hm := xif_t q hm
      obtain rfl := Option.some.inj hm
      refine xw_sub (pc := 61) _ ?_ (he _ rfl)
      exact ⟨Or.inl rfl, Or.inl rfl, Or.inl rfl, Or.inl rfl, Or.inr rfl, trivial⟩
set_option maxHeartbeats 4000000 in
set_option maxRecDepth 100000 in
theorem wX5_earliestAlike {l : Launch} {n sl : Nat} {h : XH} {x0 : Nat} {x1 : Int32} {o : Int32} (hm : fX5_earliestAlike h x0 x1 = some o) : XM l yX5_earliestAlike cX5_earliestAlike 5 (some .int) 3 64 [.ref x0, .int x1] h n sl (some (.int o)) h n sl := by
  refine xm_of pnX5 [some (.ref x0), some (.int x1), none, none, none] 3 rfl (Nat.le_of_ble_eq_true rfl) ?_
  intro X hT C
  replace C : XOK X RX5 cX5_earliestAlike 5 "earliestAlike" (some .int) 3 64 := C
  obtain ⟨-, hN, hX⟩ := hT
  unfold fX5_earliestAlike at hm
  refine xw_aload_n (pc := 0) (i := 0) (x := x0) C dX5_earliestAlike_0 rfl rfl ?_
  obtain ⟨v1, q2, hm⟩ := xbind hm
  refine xw_getR (pc := 1) C dX5_earliestAlike_1 fl_X5_10 q2 ?_
  obtain ⟨_, q3, hm⟩ := xbind hm
  obtain ⟨v4, q5, hm⟩ := xbind hm
  refine xw_callV1 (pc := 4) (As := []) (st := []) C dX5_earliestAlike_4 (wX6_measure q5) dd_X6_measure lk_X5_50 dv_X6_measure (xco_spec q3) rfl (Nat.le_of_ble_eq_true rfl) (Nat.le_of_ble_eq_true rfl) (Nat.le_of_ble_eq_true rfl) ⟨Nat.le_refl _, Nat.le_refl _⟩ hN ?_
  refine xw_istore_n (pc := 7) (i := 2) (x := v4) (L' := [some (.ref x0), some (.int x1), some (.int v4), none, none]) C dX5_earliestAlike_7 rfl (Nat.le_of_ble_eq_true rfl) rfl ?_
  refine xw_aload_n (pc := 8) (i := 0) (x := x0) C dX5_earliestAlike_8 rfl rfl ?_
  obtain ⟨v6, q7, hm⟩ := xbind hm
  refine xw_getR (pc := 9) C dX5_earliestAlike_9 fl_X5_10 q7 ?_
  refine xw_aload_n (pc := 12) (i := 0) (x := x0) C dX5_earliestAlike_12 rfl rfl ?_
  obtain ⟨v8, q9, hm⟩ := xbind hm
  refine xw_getR (pc := 13) C dX5_earliestAlike_13 fl_X5_19 q9 ?_
  refine xw_iload_n (pc := 16) (i := 1) (x := x1) C dX5_earliestAlike_16 rfl rfl ?_
  obtain ⟨_, q10, hm⟩ := xbind hm
  obtain ⟨v11, q12, hm⟩ := xbind hm
  refine xw_callV1 (pc := 17) (As := [.int x1]) (st := [.ref v6]) C dX5_earliestAlike_17 (wX2_tickOf q12) dd_X2_tickOf lk_X5_54 dv_X2_tickOf (xco_spec q10) rfl (Nat.le_of_ble_eq_true rfl) (Nat.le_of_ble_eq_true rfl) (Nat.le_of_ble_eq_true rfl) ⟨Nat.le_refl _, Nat.le_refl _⟩ hN ?_
  obtain ⟨_, q13, hm⟩ := xbind hm
  obtain ⟨v14, q15, hm⟩ := xbind hm
  refine xw_callV1 (pc := 20) (As := [.int v11]) (st := []) C dX5_earliestAlike_20 (wX6_turnAt q15) dd_X6_turnAt lk_X5_58 dv_X6_turnAt (xco_spec q13) rfl (Nat.le_of_ble_eq_true rfl) (Nat.le_of_ble_eq_true rfl) (Nat.le_of_ble_eq_true rfl) ⟨Nat.le_refl _, Nat.le_refl _⟩ hN ?_
  refine xw_iload_n (pc := 23) (i := 2) (x := v4) C dX5_earliestAlike_23 rfl rfl ?_
  obtain ⟨v16, q17, hm⟩ := xbind hm
  refine xw_callSN1 (pc := 24) (As := [.int v14, .int v4]) (st := []) C dX5_earliestAlike_24 (wX8_mod q17) dd_X8_mod lk_X5_61 ds_X8_mod rfl (Nat.le_of_ble_eq_true rfl) (Nat.le_of_ble_eq_true rfl) (Nat.le_of_ble_eq_true rfl) ⟨Nat.le_refl _, Nat.le_refl _⟩ hN ?_
  refine xw_istore_n (pc := 27) (i := 3) (x := v16) (L' := [some (.ref x0), some (.int x1), some (.int v4), some (.int v16), none]) C dX5_earliestAlike_27 rfl (Nat.le_of_ble_eq_true rfl) rfl ?_
  refine xw_iconst (pc := 28) (v := 0) C dX5_earliestAlike_28 xk_i_0 ?_
  refine xw_istore (pc := 29) (i := 4) (x := (0 : Int32)) (L' := [some (.ref x0), some (.int x1), some (.int v4), some (.int v16), some (.int (0 : Int32))]) C dX5_earliestAlike_29 (Nat.le_of_ble_eq_true rfl) rfl ?_
  obtain ⟨e30, q31, hm⟩ := xbind hm
  refine xw_sub (pc := 31) [some (.ref x0), some (.int x1), some (.int v4), some (.int v16), some (.int (0 : Int32))] ⟨Or.inr rfl, Or.inr rfl, Or.inr rfl, Or.inr rfl, Or.inr rfl, trivial⟩ ?_
  refine xloop_walk (fX5_earliestAlike_B31 h x0 x1 v4 v16) (fX5_earliestAlike_P31 X h x0 x1 v4 v16 n sl) (fX5_earliestAlike_E31 X h x0 x1 v4 v16 n sl) (fun s' o' => fX5_earliestAlike_B31_w C hN s' o') 5000 (0 : Int32) e30 q31 ?_
  rcases e30 with e30 | e30
  · dsimp only at hm
    show XW X 61 [none, none, none, none, some (.int e30)] [] h n sl
    refine xw_iload (pc := 61) (i := 4) (x := e30) C dX5_earliestAlike_61 rfl ?_
    obtain rfl := Option.some.inj hm
    exact xw_ireturn (pc := 63) C dX5_earliestAlike_63 rfl hX
  · dsimp only at hm
    show XW X 70 [none, some (.int x1), none, none, none] [] h n sl
    refine xw_iload_n (pc := 70) (i := 1) (x := x1) C dX5_earliestAlike_70 rfl rfl ?_
    obtain rfl := Option.some.inj hm
    exact xw_ireturn (pc := 71) C dX5_earliestAlike_71 rfl hX
set_option maxHeartbeats 4000000 in
set_option maxRecDepth 100000 in
theorem wX8_isFlash {l : Launch} {n sl : Nat} {h : XH} {x0 : Nat} {x1 : Int32} {o : Bool} (hm : fX8_isFlash h x0 x1 = some o) : XM l yX8_isFlash cX8_isFlash 2 (some .boolean) 1 22 [.ref x0, .int x1] h n sl (some (.int (xbi o))) h n sl := by
  refine xm_of pnX8 [some (.ref x0), some (.int x1)] 0 rfl (Nat.le_of_ble_eq_true rfl) ?_
  intro X hT C
  replace C : XOK X RX8 cX8_isFlash 2 "isFlash" (some .boolean) 1 22 := C
  obtain ⟨-, hN, hX⟩ := hT
  unfold fX8_isFlash at hm
  refine xw_iload_n (pc := 0) (i := 1) (x := x1) C dX8_isFlash_0 rfl rfl ?_
  refine xw_iconst (pc := 1) (v := 0) C dX8_isFlash_1 xk_i_0 ?_
  refine xw_aload_n (pc := 2) (i := 0) (x := x0) C dX8_isFlash_2 rfl rfl ?_
  obtain ⟨v1, q2, hm⟩ := xbind hm
  refine xw_getR (pc := 3) C dX8_isFlash_3 fl_X8_10 q2 ?_
  obtain ⟨v3, q4, hm⟩ := xbind hm
  refine xw_getR (pc := 6) C dX8_isFlash_6 fl_X8_125 q4 ?_
  obtain ⟨_, q5, hm⟩ := xbind hm
  obtain ⟨v6, q7, hm⟩ := xbind hm
  refine xw_callV1 (pc := 9) (As := []) (st := [.int (0 : Int32), .int x1]) C dX8_isFlash_9 (wX2_number q7) dd_X2_number lk_X8_137 dv_X2_number (xco_spec q5) rfl (Nat.le_of_ble_eq_true rfl) (Nat.le_of_ble_eq_true rfl) (Nat.le_of_ble_eq_true rfl) ⟨Nat.le_refl _, Nat.le_refl _⟩ hN ?_
  refine xw_iconst (pc := 12) (v := 1) C dX8_isFlash_12 xk_i_1 ?_
  refine xw_isub (pc := 13) C dX8_isFlash_13 ?_
  obtain ⟨v8, q9, hm⟩ := xbind hm
  refine xw_callS1 (pc := 14) (As := [.int x1, .int (0 : Int32), .int (v6 - (1 : Int32))]) (st := []) C dX8_isFlash_14 (wX8_within q9) dd_X8_within lk_X8_44 ds_X8_within rfl (Nat.le_of_ble_eq_true rfl) (Nat.le_of_ble_eq_true rfl) (Nat.le_of_ble_eq_true rfl) ⟨Nat.le_refl _, Nat.le_refl _⟩ hN ?_
  obtain rfl := Option.some.inj hm
  exact xw_zreturn (pc := 17) (v := xbi v8) C dX8_isFlash_17 rfl (xbi_nar _) hX
set_option maxHeartbeats 4000000 in
set_option maxRecDepth 100000 in
theorem wX6_stepBetween {l : Launch} {n sl : Nat} {h : XH} {x0 : Nat} {x1 : Int32} {x2 : Int32} {x3 : Int32} {o : Int32} (hm : fX6_stepBetween h x0 x1 x2 x3 = some o) : XM l yX6_stepBetween cX6_stepBetween 5 (some .int) 2 46 [.ref x0, .int x1, .int x2, .int x3] h n sl (some (.int o)) h n sl := by
  refine xm_of pnX6 [some (.ref x0), some (.int x1), some (.int x2), some (.int x3), none] 1 rfl (Nat.le_of_ble_eq_true rfl) ?_
  intro X hT C
  replace C : XOK X RX6 cX6_stepBetween 5 "stepBetween" (some .int) 2 46 := C
  obtain ⟨-, hN, hX⟩ := hT
  unfold fX6_stepBetween at hm
  refine xw_aload_n (pc := 0) (i := 0) (x := x0) C dX6_stepBetween_0 rfl rfl ?_
  refine xw_iload_n (pc := 1) (i := 2) (x := x2) C dX6_stepBetween_1 rfl rfl ?_
  obtain ⟨_, q1, hm⟩ := xbind hm
  obtain ⟨v2, q3, hm⟩ := xbind hm
  refine xw_callV1 (pc := 2) (As := [.int x2]) (st := []) C dX6_stepBetween_2 (wX6_turnAt q3) dd_X6_turnAt lk_X6_68 dv_X6_turnAt (xco_spec q1) rfl (Nat.le_of_ble_eq_true rfl) (Nat.le_of_ble_eq_true rfl) (Nat.le_of_ble_eq_true rfl) ⟨Nat.le_refl _, Nat.le_refl _⟩ hN ?_
  refine xw_aload_n (pc := 5) (i := 0) (x := x0) C dX6_stepBetween_5 rfl rfl ?_
  refine xw_iload_n (pc := 6) (i := 1) (x := x1) C dX6_stepBetween_6 rfl rfl ?_
  obtain ⟨_, q4, hm⟩ := xbind hm
  obtain ⟨v5, q6, hm⟩ := xbind hm
  refine xw_callV1 (pc := 7) (As := [.int x1]) (st := [.int v2]) C dX6_stepBetween_7 (wX6_turnAt q6) dd_X6_turnAt lk_X6_68 dv_X6_turnAt (xco_spec q4) rfl (Nat.le_of_ble_eq_true rfl) (Nat.le_of_ble_eq_true rfl) (Nat.le_of_ble_eq_true rfl) ⟨Nat.le_refl _, Nat.le_refl _⟩ hN ?_
  refine xw_isub (pc := 10) C dX6_stepBetween_10 ?_
  refine xw_iload_n (pc := 11) (i := 3) (x := x3) C dX6_stepBetween_11 rfl rfl ?_
  obtain ⟨v7, q8, hm⟩ := xbind hm
  refine xw_callSN1 (pc := 12) (As := [.int (v2 - v5), .int x3]) (st := []) C dX6_stepBetween_12 (wX8_mod q8) dd_X8_mod lk_X6_50 ds_X8_mod rfl (Nat.le_of_ble_eq_true rfl) (Nat.le_of_ble_eq_true rfl) (Nat.le_of_ble_eq_true rfl) ⟨Nat.le_refl _, Nat.le_refl _⟩ hN ?_
  refine xw_istore (pc := 15) (i := 4) (x := v7) (L' := [some (.ref x0), some (.int x1), some (.int x2), some (.int x3), some (.int v7)]) C dX6_stepBetween_15 (Nat.le_of_ble_eq_true rfl) rfl ?_
  refine xw_iconst (pc := 17) (v := 2) C dX6_stepBetween_17 xk_i_2 ?_
  refine xw_iload (pc := 18) (i := 4) (x := v7) C dX6_stepBetween_18 rfl ?_
  refine xw_imul (pc := 20) C dX6_stepBetween_20 ?_
  refine xw_iload_n (pc := 21) (i := 3) (x := x3) C dX6_stepBetween_21 rfl rfl ?_
  refine xw_icmp_le (pc := 22) (tgt := 32) C dX6_stepBetween_22 (by decide) (fun q => ?_) (fun q => ?_)
  · replace hm := xif_t q hm
    refine xw_iload (pc := 32) (i := 4) (x := v7) C dX6_stepBetween_32 rfl ?_
    obtain rfl := Option.some.inj hm
    exact xw_ireturn (pc := 34) C dX6_stepBetween_34 rfl hX
  · replace hm := xif_f q hm
    refine xw_iload (pc := 25) (i := 4) (x := v7) C dX6_stepBetween_25 rfl ?_
    refine xw_iload_n (pc := 27) (i := 3) (x := x3) C dX6_stepBetween_27 rfl rfl ?_
    refine xw_isub (pc := 28) C dX6_stepBetween_28 ?_
    refine xw_goto (pc := 29) (tgt := 34) C dX6_stepBetween_29 (by decide) ?_
    obtain rfl := Option.some.inj hm
    exact xw_ireturn (pc := 34) C dX6_stepBetween_34 rfl hX
set_option maxHeartbeats 4000000 in
set_option maxRecDepth 100000 in
theorem wX8_isTick {l : Launch} {n sl : Nat} {h : XH} {x0 : Int32} {o : Bool} (hm : fX8_isTick x0 = some o) : XM l yX8_isTick cX8_isTick 1 (some .boolean) 1 22 [.int x0] h n sl (some (.int (xbi o))) h n sl := by
  refine xm_of pnX8 [some (.int x0)] 0 rfl (Nat.le_of_ble_eq_true rfl) ?_
  intro X hT C
  replace C : XOK X RX8 cX8_isTick 1 "isTick" (some .boolean) 1 22 := C
  obtain ⟨-, hN, hX⟩ := hT
  unfold fX8_isTick at hm
  refine xw_iload_n (pc := 0) (i := 0) (x := x0) C dX8_isTick_0 rfl rfl ?_
  refine xw_iconst (pc := 1) (v := 0) C dX8_isTick_1 xk_i_0 ?_
  refine xw_sipush (pc := 2) (v := 1000) C dX8_isTick_2 xk_s_1000 ?_
  obtain ⟨v1, q2, hm⟩ := xbind hm
  refine xw_callS1 (pc := 5) (As := [.int x0, .int (0 : Int32), .int (1000 : Int32)]) (st := []) C dX8_isTick_5 (wX8_within q2) dd_X8_within lk_X8_44 ds_X8_within rfl (Nat.le_of_ble_eq_true rfl) (Nat.le_of_ble_eq_true rfl) (Nat.le_of_ble_eq_true rfl) ⟨Nat.le_refl _, Nat.le_refl _⟩ hN ?_
  obtain rfl := Option.some.inj hm
  exact xw_zreturn (pc := 8) (v := xbi v1) C dX8_isTick_8 rfl (xbi_nar _) hX
set_option maxHeartbeats 4000000 in
set_option maxRecDepth 100000 in
theorem wX8_step {l : Launch} {n sl : Nat} {h : XH} {x0 : Nat} {x1 : Int32} {x2 : Int32} {o : Int32} (hm : fX8_step h x0 x1 x2 = some o) : XM l yX8_step cX8_step 3 (some .int) 3 70 [.ref x0, .int x1, .int x2] h n sl (some (.int o)) h n sl := by
  refine xm_of pnX8 [some (.ref x0), some (.int x1), some (.int x2)] 0 rfl (Nat.le_of_ble_eq_true rfl) ?_
  intro X hT C
  replace C : XOK X RX8 cX8_step 3 "step" (some .int) 3 70 := C
  obtain ⟨-, hN, hX⟩ := hT
  unfold fX8_step at hm
  refine xw_iload_n (pc := 0) (i := 1) (x := x1) C dX8_step_0 rfl rfl ?_
  obtain ⟨v1, q2, hm⟩ := xbind hm
  refine xw_callS1 (pc := 1) (As := [.int x1]) (st := []) C dX8_step_1 (wX8_isTick q2) dd_X8_isTick lk_X8_99 ds_X8_isTick rfl (Nat.le_of_ble_eq_true rfl) (Nat.le_of_ble_eq_true rfl) (Nat.le_of_ble_eq_true rfl) ⟨Nat.le_refl _, Nat.le_refl _⟩ hN ?_
  refine xw_if_eqZ (pc := 4) (b := v1) (tgt := 14) C dX8_step_4 (by decide) (fun q => ?_) (fun q => ?_)
  · replace hm := xif_f q hm
    refine xw_sipush (pc := 14) (v := -1001) C dX8_step_14 xk_s_m1001 ?_
    obtain rfl := Option.some.inj hm
    exact xw_ireturn (pc := 17) C dX8_step_17 rfl hX
  · replace hm := xif_t q hm
    refine xw_iload_n (pc := 7) (i := 2) (x := x2) C dX8_step_7 rfl rfl ?_
    obtain ⟨v3, q4, hm⟩ := xbind hm
    refine xw_callS1 (pc := 8) (As := [.int x2]) (st := []) C dX8_step_8 (wX8_isTick q4) dd_X8_isTick lk_X8_99 ds_X8_isTick rfl (Nat.le_of_ble_eq_true rfl) (Nat.le_of_ble_eq_true rfl) (Nat.le_of_ble_eq_true rfl) ⟨Nat.le_refl _, Nat.le_refl _⟩ hN ?_
    refine xw_if_neZ (pc := 11) (b := v3) (tgt := 18) C dX8_step_11 (by decide) (fun q => ?_) (fun q => ?_)
    · replace hm := xif_t q hm
      refine xw_aload_n (pc := 18) (i := 0) (x := x0) C dX8_step_18 rfl rfl ?_
      obtain ⟨v5, q6, hm⟩ := xbind hm
      refine xw_getR (pc := 19) C dX8_step_19 fl_X8_10 q6 ?_
      obtain ⟨v7, q8, hm⟩ := xbind hm
      refine xw_getR (pc := 22) C dX8_step_22 fl_X8_67 q8 ?_
      refine xw_iload_n (pc := 25) (i := 1) (x := x1) C dX8_step_25 rfl rfl ?_
      refine xw_iload_n (pc := 26) (i := 2) (x := x2) C dX8_step_26 rfl rfl ?_
      refine xw_aload_n (pc := 27) (i := 0) (x := x0) C dX8_step_27 rfl rfl ?_
      obtain ⟨v9, q10, hm⟩ := xbind hm
      refine xw_getR (pc := 28) C dX8_step_28 fl_X8_10 q10 ?_
      obtain ⟨v11, q12, hm⟩ := xbind hm
      refine xw_getR (pc := 31) C dX8_step_31 fl_X8_67 q12 ?_
      obtain ⟨_, q13, hm⟩ := xbind hm
      obtain ⟨v14, q15, hm⟩ := xbind hm
      refine xw_callV1 (pc := 34) (As := []) (st := [.int x2, .int x1, .ref v7]) C dX8_step_34 (wX6_measure q15) dd_X6_measure lk_X8_156 dv_X6_measure (xco_spec q13) rfl (Nat.le_of_ble_eq_true rfl) (Nat.le_of_ble_eq_true rfl) (Nat.le_of_ble_eq_true rfl) ⟨Nat.le_refl _, Nat.le_refl _⟩ hN ?_
      obtain ⟨_, q16, hm⟩ := xbind hm
      obtain ⟨v17, q18, hm⟩ := xbind hm
      refine xw_callV1 (pc := 37) (As := [.int x1, .int x2, .int v14]) (st := []) C dX8_step_37 (wX6_stepBetween q18) dd_X6_stepBetween lk_X8_159 dv_X6_stepBetween (xco_spec q16) rfl (Nat.le_of_ble_eq_true rfl) (Nat.le_of_ble_eq_true rfl) (Nat.le_of_ble_eq_true rfl) ⟨Nat.le_refl _, Nat.le_refl _⟩ hN ?_
      obtain rfl := Option.some.inj hm
      exact xw_ireturn (pc := 40) C dX8_step_40 rfl hX
    · replace hm := xif_f q hm
      refine xw_sipush (pc := 14) (v := -1001) C dX8_step_14 xk_s_m1001 ?_
      obtain rfl := Option.some.inj hm
      exact xw_ireturn (pc := 17) C dX8_step_17 rfl hX
set_option maxHeartbeats 4000000 in
set_option maxRecDepth 100000 in
theorem wX8_turn {l : Launch} {n sl : Nat} {h : XH} {x0 : Nat} {x1 : Int32} {o : Int32} (hm : fX8_turn h x0 x1 = some o) : XM l yX8_turn cX8_turn 2 (some .int) 2 46 [.ref x0, .int x1] h n sl (some (.int o)) h n sl := by
  refine xm_of pnX8 [some (.ref x0), some (.int x1)] 0 rfl (Nat.le_of_ble_eq_true rfl) ?_
  intro X hT C
  replace C : XOK X RX8 cX8_turn 2 "turn" (some .int) 2 46 := C
  obtain ⟨-, hN, hX⟩ := hT
  unfold fX8_turn at hm
  refine xw_iload_n (pc := 0) (i := 1) (x := x1) C dX8_turn_0 rfl rfl ?_
  obtain ⟨v1, q2, hm⟩ := xbind hm
  refine xw_callS1 (pc := 1) (As := [.int x1]) (st := []) C dX8_turn_1 (wX8_isTick q2) dd_X8_isTick lk_X8_99 ds_X8_isTick rfl (Nat.le_of_ble_eq_true rfl) (Nat.le_of_ble_eq_true rfl) (Nat.le_of_ble_eq_true rfl) ⟨Nat.le_refl _, Nat.le_refl _⟩ hN ?_
  refine xw_if_neZ (pc := 4) (b := v1) (tgt := 11) C dX8_turn_4 (by decide) (fun q => ?_) (fun q => ?_)
  · replace hm := xif_t q hm
    refine xw_aload_n (pc := 11) (i := 0) (x := x0) C dX8_turn_11 rfl rfl ?_
    obtain ⟨v3, q4, hm⟩ := xbind hm
    refine xw_getR (pc := 12) C dX8_turn_12 fl_X8_10 q4 ?_
    obtain ⟨v5, q6, hm⟩ := xbind hm
    refine xw_getR (pc := 15) C dX8_turn_15 fl_X8_67 q6 ?_
    refine xw_iload_n (pc := 18) (i := 1) (x := x1) C dX8_turn_18 rfl rfl ?_
    obtain ⟨_, q7, hm⟩ := xbind hm
    obtain ⟨v8, q9, hm⟩ := xbind hm
    refine xw_callV1 (pc := 19) (As := [.int x1]) (st := []) C dX8_turn_19 (wX6_turnAt q9) dd_X6_turnAt lk_X8_118 dv_X6_turnAt (xco_spec q7) rfl (Nat.le_of_ble_eq_true rfl) (Nat.le_of_ble_eq_true rfl) (Nat.le_of_ble_eq_true rfl) ⟨Nat.le_refl _, Nat.le_refl _⟩ hN ?_
    refine xw_aload_n (pc := 22) (i := 0) (x := x0) C dX8_turn_22 rfl rfl ?_
    obtain ⟨v10, q11, hm⟩ := xbind hm
    refine xw_getR (pc := 23) C dX8_turn_23 fl_X8_10 q11 ?_
    obtain ⟨v12, q13, hm⟩ := xbind hm
    refine xw_getR (pc := 26) C dX8_turn_26 fl_X8_67 q13 ?_
    obtain ⟨v14, q15, hm⟩ := xbind hm
    refine xw_getI (pc := 29) C dX8_turn_29 fl_X8_74 q15 ?_
    obtain ⟨v16, q17, hm⟩ := xbind hm
    refine xw_callS1 (pc := 32) (As := [.int v8, .int v14]) (st := []) C dX8_turn_32 (wX8_mod q17) dd_X8_mod lk_X8_121 ds_X8_mod rfl (Nat.le_of_ble_eq_true rfl) (Nat.le_of_ble_eq_true rfl) (Nat.le_of_ble_eq_true rfl) ⟨Nat.le_refl _, Nat.le_refl _⟩ hN ?_
    obtain rfl := Option.some.inj hm
    exact xw_ireturn (pc := 35) C dX8_turn_35 rfl hX
  · replace hm := xif_f q hm
    refine xw_sipush (pc := 7) (v := -1001) C dX8_turn_7 xk_s_m1001 ?_
    obtain rfl := Option.some.inj hm
    exact xw_ireturn (pc := 10) C dX8_turn_10 rfl hX
set_option maxHeartbeats 4000000 in
set_option maxRecDepth 100000 in
theorem wX8_flash {l : Launch} {n sl : Nat} {h : XH} {x0 : Nat} {x1 : Int32} {x2 : Int32} {o : Int32} (hm : fX8_flash h x0 x1 x2 = some o) : XM l yX8_flash cX8_flash 4 (some .int) 4 92 [.ref x0, .int x1, .int x2] h n sl (some (.int o)) h n sl := by
  refine xm_of pnX8 [some (.ref x0), some (.int x1), some (.int x2), none] 1 rfl (Nat.le_of_ble_eq_true rfl) ?_
  intro X hT C
  replace C : XOK X RX8 cX8_flash 4 "flash" (some .int) 4 92 := C
  obtain ⟨-, hN, hX⟩ := hT
  unfold fX8_flash at hm
  refine xw_aload_n (pc := 0) (i := 0) (x := x0) C dX8_flash_0 rfl rfl ?_
  refine xw_iload_n (pc := 1) (i := 1) (x := x1) C dX8_flash_1 rfl rfl ?_
  obtain ⟨_, q1, hm⟩ := xbind hm
  obtain ⟨v2, q3, hm⟩ := xbind hm
  refine xw_callV1 (pc := 2) (As := [.int x1]) (st := []) C dX8_flash_2 (wX8_isFlash q3) dd_X8_isFlash lk_X8_141 dv_X8_isFlash (xco_spec q1) rfl (Nat.le_of_ble_eq_true rfl) (Nat.le_of_ble_eq_true rfl) (Nat.le_of_ble_eq_true rfl) ⟨Nat.le_refl _, Nat.le_refl _⟩ hN ?_
  refine xw_if_eqZ (pc := 5) (b := v2) (tgt := 17) C dX8_flash_5 (by decide) (fun q => ?_) (fun q => ?_)
  · replace hm := xif_f q hm
    refine xw_sipush (pc := 17) (v := -1001) C dX8_flash_17 xk_s_m1001 ?_
    obtain rfl := Option.some.inj hm
    exact xw_ireturn (pc := 20) C dX8_flash_20 rfl hX
  · replace hm := xif_t q hm
    refine xw_iload_n (pc := 8) (i := 2) (x := x2) C dX8_flash_8 rfl rfl ?_
    refine xw_iconst (pc := 9) (v := 0) C dX8_flash_9 xk_i_0 ?_
    refine xw_iconst (pc := 10) (v := 3) C dX8_flash_10 xk_i_3 ?_
    obtain ⟨v4, q5, hm⟩ := xbind hm
    refine xw_callS1 (pc := 11) (As := [.int x2, .int (0 : Int32), .int (3 : Int32)]) (st := []) C dX8_flash_11 (wX8_within q5) dd_X8_within lk_X8_44 ds_X8_within rfl (Nat.le_of_ble_eq_true rfl) (Nat.le_of_ble_eq_true rfl) (Nat.le_of_ble_eq_true rfl) ⟨Nat.le_refl _, Nat.le_refl _⟩ hN ?_
    refine xw_if_neZ (pc := 14) (b := v4) (tgt := 21) C dX8_flash_14 (by decide) (fun q => ?_) (fun q => ?_)
    · replace hm := xif_t q hm
      refine xw_aload_n (pc := 21) (i := 0) (x := x0) C dX8_flash_21 rfl rfl ?_
      obtain ⟨v6, q7, hm⟩ := xbind hm
      refine xw_getR (pc := 22) C dX8_flash_22 fl_X8_10 q7 ?_
      obtain ⟨v8, q9, hm⟩ := xbind hm
      refine xw_getR (pc := 25) C dX8_flash_25 fl_X8_125 q9 ?_
      refine xw_iload_n (pc := 28) (i := 1) (x := x1) C dX8_flash_28 rfl rfl ?_
      obtain ⟨_, q10, hm⟩ := xbind hm
      obtain ⟨v11, q12, hm⟩ := xbind hm
      refine xw_callV1 (pc := 29) (As := [.int x1]) (st := []) C dX8_flash_29 (wX2_tickOf q12) dd_X2_tickOf lk_X8_144 dv_X2_tickOf (xco_spec q10) rfl (Nat.le_of_ble_eq_true rfl) (Nat.le_of_ble_eq_true rfl) (Nat.le_of_ble_eq_true rfl) ⟨Nat.le_refl _, Nat.le_refl _⟩ hN ?_
      refine xw_istore_n (pc := 32) (i := 3) (x := v11) (L' := [some (.ref x0), some (.int x1), some (.int x2), some (.int v11)]) C dX8_flash_32 rfl (Nat.le_of_ble_eq_true rfl) rfl ?_
      refine xw_iload_n (pc := 33) (i := 2) (x := x2) C dX8_flash_33 rfl rfl ?_
      by_cases q13 : x2 = 0
      · replace hm := xif_t q13 hm
        refine xw_tabIn (pc := 34) (v := 0) (off := 26) (tgt := 60) C dX8_flash_34 q13 (by decide) (by decide) (by decide) (by decide) ?_
        refine xw_iload_n (pc := 60) (i := 3) (x := v11) C dX8_flash_60 rfl rfl ?_
        obtain rfl := Option.some.inj hm
        exact xw_ireturn (pc := 61) C dX8_flash_61 rfl hX
      · replace hm := xif_f q13 hm
        by_cases q14 : x2 = 1
        · replace hm := xif_t q14 hm
          refine xw_tabIn (pc := 34) (v := 1) (off := 28) (tgt := 62) C dX8_flash_34 q14 (by decide) (by decide) (by decide) (by decide) ?_
          refine xw_aload_n (pc := 62) (i := 0) (x := x0) C dX8_flash_62 rfl rfl ?_
          refine xw_iload_n (pc := 63) (i := 3) (x := v11) C dX8_flash_63 rfl rfl ?_
          obtain ⟨_, q16, hm⟩ := xbind hm
          obtain ⟨v17, q18, hm⟩ := xbind hm
          refine xw_callV1 (pc := 64) (As := [.int v11]) (st := []) C dX8_flash_64 (wX8_turn q18) dd_X8_turn lk_X8_147 dv_X8_turn (xco_spec q16) rfl (Nat.le_of_ble_eq_true rfl) (Nat.le_of_ble_eq_true rfl) (Nat.le_of_ble_eq_true rfl) ⟨Nat.le_refl _, Nat.le_refl _⟩ hN ?_
          obtain rfl := Option.some.inj hm
          exact xw_ireturn (pc := 67) C dX8_flash_67 rfl hX
        · replace hm := xif_f q14 hm
          by_cases q15 : x2 = 2
          · replace hm := xif_t q15 hm
            refine xw_tabIn (pc := 34) (v := 2) (off := 34) (tgt := 68) C dX8_flash_34 q15 (by decide) (by decide) (by decide) (by decide) ?_
            refine xw_aload_n (pc := 68) (i := 0) (x := x0) C dX8_flash_68 rfl rfl ?_
            refine xw_iload_n (pc := 69) (i := 1) (x := x1) C dX8_flash_69 rfl rfl ?_
            refine xw_iconst (pc := 70) (v := 1) C dX8_flash_70 xk_i_1 ?_
            refine xw_iadd (pc := 71) C dX8_flash_71 ?_
            obtain ⟨_, q19, hm⟩ := xbind hm
            obtain ⟨v20, q21, hm⟩ := xbind hm
            refine xw_callV1 (pc := 72) (As := [.int (x1 + (1 : Int32))]) (st := []) C dX8_flash_72 (wX8_isFlash q21) dd_X8_isFlash lk_X8_141 dv_X8_isFlash (xco_spec q19) rfl (Nat.le_of_ble_eq_true rfl) (Nat.le_of_ble_eq_true rfl) (Nat.le_of_ble_eq_true rfl) ⟨Nat.le_refl _, Nat.le_refl _⟩ hN ?_
            refine xw_if_eqZ (pc := 75) (b := v20) (tgt := 99) C dX8_flash_75 (by decide) (fun q => ?_) (fun q => ?_)
            · replace hm := xif_f q hm
              refine xw_sipush (pc := 99) (v := -1004) C dX8_flash_99 xk_s_m1004 ?_
              obtain rfl := Option.some.inj hm
              exact xw_ireturn (pc := 102) C dX8_flash_102 rfl hX
            · replace hm := xif_t q hm
              refine xw_aload_n (pc := 78) (i := 0) (x := x0) C dX8_flash_78 rfl rfl ?_
              refine xw_iload_n (pc := 79) (i := 3) (x := v11) C dX8_flash_79 rfl rfl ?_
              refine xw_aload_n (pc := 80) (i := 0) (x := x0) C dX8_flash_80 rfl rfl ?_
              obtain ⟨v22, q23, hm⟩ := xbind hm
              refine xw_getR (pc := 81) C dX8_flash_81 fl_X8_10 q23 ?_
              obtain ⟨v24, q25, hm⟩ := xbind hm
              refine xw_getR (pc := 84) C dX8_flash_84 fl_X8_125 q25 ?_
              refine xw_iload_n (pc := 87) (i := 1) (x := x1) C dX8_flash_87 rfl rfl ?_
              refine xw_iconst (pc := 88) (v := 1) C dX8_flash_88 xk_i_1 ?_
              refine xw_iadd (pc := 89) C dX8_flash_89 ?_
              obtain ⟨_, q26, hm⟩ := xbind hm
              obtain ⟨v27, q28, hm⟩ := xbind hm
              refine xw_callV1 (pc := 90) (As := [.int (x1 + (1 : Int32))]) (st := [.int v11, .ref x0]) C dX8_flash_90 (wX2_tickOf q28) dd_X2_tickOf lk_X8_144 dv_X2_tickOf (xco_spec q26) rfl (Nat.le_of_ble_eq_true rfl) (Nat.le_of_ble_eq_true rfl) (Nat.le_of_ble_eq_true rfl) ⟨Nat.le_refl _, Nat.le_refl _⟩ hN ?_
              obtain ⟨_, q29, hm⟩ := xbind hm
              obtain ⟨v30, q31, hm⟩ := xbind hm
              refine xw_callV1 (pc := 93) (As := [.int v11, .int v27]) (st := []) C dX8_flash_93 (wX8_step q31) dd_X8_step lk_X8_150 dv_X8_step (xco_spec q29) rfl (Nat.le_of_ble_eq_true rfl) (Nat.le_of_ble_eq_true rfl) (Nat.le_of_ble_eq_true rfl) ⟨Nat.le_refl _, Nat.le_refl _⟩ hN ?_
              refine xw_goto (pc := 96) (tgt := 102) C dX8_flash_96 (by decide) ?_
              obtain rfl := Option.some.inj hm
              exact xw_ireturn (pc := 102) C dX8_flash_102 rfl hX
          · replace hm := xif_f q15 hm
            refine xw_tabOut (pc := 34) (tgt := 103) C dX8_flash_34 (by have := lv_neT q13 (a := 0) (by decide); have := lv_neT q14 (a := 1) (by decide); have := lv_neT q15 (a := 2) (by decide); omega) (by decide) ?_
            refine xw_aload_n (pc := 103) (i := 0) (x := x0) C dX8_flash_103 rfl rfl ?_
            obtain ⟨v32, q33, hm⟩ := xbind hm
            refine xw_getR (pc := 104) C dX8_flash_104 fl_X8_10 q33 ?_
            refine xw_iload_n (pc := 107) (i := 1) (x := x1) C dX8_flash_107 rfl rfl ?_
            obtain ⟨_, q34, hm⟩ := xbind hm
            obtain ⟨v35, q36, hm⟩ := xbind hm
            refine xw_callV1 (pc := 108) (As := [.int x1]) (st := []) C dX8_flash_108 (wX5_earliestAlike q36) dd_X5_earliestAlike lk_X8_153 dv_X5_earliestAlike (xco_spec q34) rfl (Nat.le_of_ble_eq_true rfl) (Nat.le_of_ble_eq_true rfl) (Nat.le_of_ble_eq_true rfl) ⟨Nat.le_refl _, Nat.le_refl _⟩ hN ?_
            obtain rfl := Option.some.inj hm
            exact xw_ireturn (pc := 111) C dX8_flash_111 rfl hX
    · replace hm := xif_f q hm
      refine xw_sipush (pc := 17) (v := -1001) C dX8_flash_17 xk_s_m1001 ?_
      obtain rfl := Option.some.inj hm
      exact xw_ireturn (pc := 20) C dX8_flash_20 rfl hX
set_option maxHeartbeats 4000000 in
set_option maxRecDepth 100000 in
theorem wX8_isPlace {l : Launch} {n sl : Nat} {h : XH} {x0 : Nat} {x1 : Int32} {o : Bool} (hm : fX8_isPlace h x0 x1 = some o) : XM l yX8_isPlace cX8_isPlace 2 (some .boolean) 1 22 [.ref x0, .int x1] h n sl (some (.int (xbi o))) h n sl := by
  refine xm_of pnX8 [some (.ref x0), some (.int x1)] 0 rfl (Nat.le_of_ble_eq_true rfl) ?_
  intro X hT C
  replace C : XOK X RX8 cX8_isPlace 2 "isPlace" (some .boolean) 1 22 := C
  obtain ⟨-, hN, hX⟩ := hT
  unfold fX8_isPlace at hm
  refine xw_iload_n (pc := 0) (i := 1) (x := x1) C dX8_isPlace_0 rfl rfl ?_
  refine xw_iconst (pc := 1) (v := 0) C dX8_isPlace_1 xk_i_0 ?_
  refine xw_aload_n (pc := 2) (i := 0) (x := x0) C dX8_isPlace_2 rfl rfl ?_
  obtain ⟨v1, q2, hm⟩ := xbind hm
  refine xw_getR (pc := 3) C dX8_isPlace_3 fl_X8_10 q2 ?_
  obtain ⟨v3, q4, hm⟩ := xbind hm
  refine xw_getR (pc := 6) C dX8_isPlace_6 fl_X8_67 q4 ?_
  obtain ⟨v5, q6, hm⟩ := xbind hm
  refine xw_getI (pc := 9) C dX8_isPlace_9 fl_X8_74 q6 ?_
  refine xw_iconst (pc := 12) (v := 1) C dX8_isPlace_12 xk_i_1 ?_
  refine xw_isub (pc := 13) C dX8_isPlace_13 ?_
  obtain ⟨v7, q8, hm⟩ := xbind hm
  refine xw_callS1 (pc := 14) (As := [.int x1, .int (0 : Int32), .int (v5 - (1 : Int32))]) (st := []) C dX8_isPlace_14 (wX8_within q8) dd_X8_within lk_X8_44 ds_X8_within rfl (Nat.le_of_ble_eq_true rfl) (Nat.le_of_ble_eq_true rfl) (Nat.le_of_ble_eq_true rfl) ⟨Nat.le_refl _, Nat.le_refl _⟩ hN ?_
  obtain rfl := Option.some.inj hm
  exact xw_zreturn (pc := 17) (v := xbi v7) C dX8_isPlace_17 rfl (xbi_nar _) hX
set_option maxHeartbeats 4000000 in
set_option maxRecDepth 100000 in
theorem wX8_markAt {l : Launch} {n sl : Nat} {h : XH} {x0 : Nat} {x1 : Int32} {x2 : Int32} {o : Int32} (hm : fX8_markAt h x0 x1 x2 = some o) : XM l yX8_markAt cX8_markAt 3 (some .int) 2 46 [.ref x0, .int x1, .int x2] h n sl (some (.int o)) h n sl := by
  refine xm_of pnX8 [some (.ref x0), some (.int x1), some (.int x2)] 0 rfl (Nat.le_of_ble_eq_true rfl) ?_
  intro X hT C
  replace C : XOK X RX8 cX8_markAt 3 "markAt" (some .int) 2 46 := C
  obtain ⟨-, hN, hX⟩ := hT
  unfold fX8_markAt at hm
  refine xw_iload_n (pc := 0) (i := 1) (x := x1) C dX8_markAt_0 rfl rfl ?_
  obtain ⟨v1, q2, hm⟩ := xbind hm
  refine xw_callS1 (pc := 1) (As := [.int x1]) (st := []) C dX8_markAt_1 (wX8_isTick q2) dd_X8_isTick lk_X8_99 ds_X8_isTick rfl (Nat.le_of_ble_eq_true rfl) (Nat.le_of_ble_eq_true rfl) (Nat.le_of_ble_eq_true rfl) ⟨Nat.le_refl _, Nat.le_refl _⟩ hN ?_
  refine xw_if_eqZ (pc := 4) (b := v1) (tgt := 15) C dX8_markAt_4 (by decide) (fun q => ?_) (fun q => ?_)
  · replace hm := xif_f q hm
    refine xw_sipush (pc := 15) (v := -1001) C dX8_markAt_15 xk_s_m1001 ?_
    obtain rfl := Option.some.inj hm
    exact xw_ireturn (pc := 18) C dX8_markAt_18 rfl hX
  · replace hm := xif_t q hm
    refine xw_aload_n (pc := 7) (i := 0) (x := x0) C dX8_markAt_7 rfl rfl ?_
    refine xw_iload_n (pc := 8) (i := 2) (x := x2) C dX8_markAt_8 rfl rfl ?_
    obtain ⟨_, q3, hm⟩ := xbind hm
    obtain ⟨v4, q5, hm⟩ := xbind hm
    refine xw_callV1 (pc := 9) (As := [.int x2]) (st := []) C dX8_markAt_9 (wX8_isPlace q5) dd_X8_isPlace lk_X8_80 dv_X8_isPlace (xco_spec q3) rfl (Nat.le_of_ble_eq_true rfl) (Nat.le_of_ble_eq_true rfl) (Nat.le_of_ble_eq_true rfl) ⟨Nat.le_refl _, Nat.le_refl _⟩ hN ?_
    refine xw_if_neZ (pc := 12) (b := v4) (tgt := 19) C dX8_markAt_12 (by decide) (fun q => ?_) (fun q => ?_)
    · replace hm := xif_t q hm
      refine xw_aload_n (pc := 19) (i := 0) (x := x0) C dX8_markAt_19 rfl rfl ?_
      obtain ⟨v6, q7, hm⟩ := xbind hm
      refine xw_getR (pc := 20) C dX8_markAt_20 fl_X8_10 q7 ?_
      obtain ⟨v8, q9, hm⟩ := xbind hm
      refine xw_getR (pc := 23) C dX8_markAt_23 fl_X8_67 q9 ?_
      refine xw_iload_n (pc := 26) (i := 2) (x := x2) C dX8_markAt_26 rfl rfl ?_
      refine xw_aload_n (pc := 27) (i := 0) (x := x0) C dX8_markAt_27 rfl rfl ?_
      obtain ⟨v10, q11, hm⟩ := xbind hm
      refine xw_getR (pc := 28) C dX8_markAt_28 fl_X8_10 q11 ?_
      obtain ⟨v12, q13, hm⟩ := xbind hm
      refine xw_getR (pc := 31) C dX8_markAt_31 fl_X8_67 q13 ?_
      refine xw_iload_n (pc := 34) (i := 1) (x := x1) C dX8_markAt_34 rfl rfl ?_
      obtain ⟨_, q14, hm⟩ := xbind hm
      obtain ⟨v15, q16, hm⟩ := xbind hm
      refine xw_callV1 (pc := 35) (As := [.int x1]) (st := [.int x2, .ref v8]) C dX8_markAt_35 (wX6_turnAt q16) dd_X6_turnAt lk_X8_118 dv_X6_turnAt (xco_spec q14) rfl (Nat.le_of_ble_eq_true rfl) (Nat.le_of_ble_eq_true rfl) (Nat.le_of_ble_eq_true rfl) ⟨Nat.le_refl _, Nat.le_refl _⟩ hN ?_
      refine xw_isub (pc := 38) C dX8_markAt_38 ?_
      refine xw_aload_n (pc := 39) (i := 0) (x := x0) C dX8_markAt_39 rfl rfl ?_
      obtain ⟨v17, q18, hm⟩ := xbind hm
      refine xw_getR (pc := 40) C dX8_markAt_40 fl_X8_10 q18 ?_
      obtain ⟨v19, q20, hm⟩ := xbind hm
      refine xw_getR (pc := 43) C dX8_markAt_43 fl_X8_67 q20 ?_
      obtain ⟨v21, q22, hm⟩ := xbind hm
      refine xw_getI (pc := 46) C dX8_markAt_46 fl_X8_74 q22 ?_
      obtain ⟨v23, q24, hm⟩ := xbind hm
      refine xw_callS1 (pc := 49) (As := [.int (x2 - v15), .int v21]) (st := [.ref v8]) C dX8_markAt_49 (wX8_mod q24) dd_X8_mod lk_X8_121 ds_X8_mod rfl (Nat.le_of_ble_eq_true rfl) (Nat.le_of_ble_eq_true rfl) (Nat.le_of_ble_eq_true rfl) ⟨Nat.le_refl _, Nat.le_refl _⟩ hN ?_
      obtain ⟨_, q25, hm⟩ := xbind hm
      obtain ⟨v26, q27, hm⟩ := xbind hm
      refine xw_callV1 (pc := 52) (As := [.int v23]) (st := []) C dX8_markAt_52 (wX6_markOf q27) dd_X6_markOf lk_X8_84 dv_X6_markOf (xco_spec q25) rfl (Nat.le_of_ble_eq_true rfl) (Nat.le_of_ble_eq_true rfl) (Nat.le_of_ble_eq_true rfl) ⟨Nat.le_refl _, Nat.le_refl _⟩ hN ?_
      obtain rfl := Option.some.inj hm
      exact xw_ireturn (pc := 55) C dX8_markAt_55 rfl hX
    · replace hm := xif_f q hm
      refine xw_sipush (pc := 15) (v := -1001) C dX8_markAt_15 xk_s_m1001 ?_
      obtain rfl := Option.some.inj hm
      exact xw_ireturn (pc := 18) C dX8_markAt_18 rfl hX
def fX5_countSeeming_P22 (X : XCtx) (h : XH) (x0 : Nat) (x1 : Int32) (x2 : Int32) (x3 : Int32) (n sl : Nat) (s : (Int32 × Int32)) : Prop := XW X 22 [some (.ref x0), some (.int x1), some (.int x2), some (.int x3), some (.int s.1), some (.int s.2), none, none] [] h n sl
def fX5_countSeeming_E22 (X : XCtx) (h : XH) (x0 : Nat) (x1 : Int32) (x2 : Int32) (x3 : Int32) (n sl : Nat) (e : Int32) : Prop := XW X 96 [none, none, none, none, some (.int e), none, none, none] [] h n sl
set_option maxHeartbeats 4000000 in
set_option maxRecDepth 100000 in
theorem fX5_countSeeming_J79_w {X : XCtx} (C : XOK X RX5 cX5_countSeeming 8 "countSeeming" (some .int) 3 70) {n sl : Nat} (hN : XN X n sl)  {h : XH} {x0 : Nat} {x1 : Int32} {x2 : Int32} {x3 : Int32} {x4 : Int32} {x5 : Int32} {s0 : Int32} {o : (Int32 × Int32) ⊕ Int32} (hm : fX5_countSeeming_J79 h x0 x1 x2 x3 x4 x5 s0 = some o) (hc : ∀ s', o = .inl s' → fX5_countSeeming_P22 X h x0 x1 x2 x3 n sl s') (he : ∀ e', o = .inr e' → fX5_countSeeming_E22 X h x0 x1 x2 x3 n sl e') : XW X 79 [some (.ref x0), some (.int x1), some (.int x2), some (.int x3), some (.int x4), some (.int x5), none, none] [.int s0] h n sl := by
  unfold fX5_countSeeming_J79 at hm
  refine xw_istore (pc := 79) (i := 7) (x := s0) (L' := [some (.ref x0), some (.int x1), some (.int x2), some (.int x3), some (.int x4), some (.int x5), none, some (.int s0)]) C dX5_countSeeming_79 (Nat.le_of_ble_eq_true rfl) rfl ?_
  refine xw_iload (pc := 81) (i := 7) (x := s0) C dX5_countSeeming_81 rfl ?_
  refine xw_iload_n (pc := 83) (i := 1) (x := x1) C dX5_countSeeming_83 rfl rfl ?_
  refine xw_icmp_ne (pc := 84) (tgt := 90) C dX5_countSeeming_84 (by decide) (fun q => ?_) (fun q => ?_)
  · replace hm := xif_f q hm
    refine xw_iinc (pc := 90) (i := 5) (x := x5) (v := (x5 + (1 : Int32))) (L' := [some (.ref x0), some (.int x1), some (.int x2), some (.int x3), some (.int x4), some (.int (x5 + (1 : Int32))), none, some (.int s0)]) C dX5_countSeeming_90 rfl (congrArg (HAdd.hAdd _) xk_i_1) (Nat.le_of_ble_eq_true rfl) rfl ?_
    refine xw_goto (pc := 93) (tgt := 22) C dX5_countSeeming_93 (by decide) ?_
    obtain rfl := Option.some.inj hm
    refine xw_sub (pc := 22) _ ?_ (hc _ rfl)
    exact ⟨Or.inr rfl, Or.inr rfl, Or.inr rfl, Or.inr rfl, Or.inr rfl, Or.inr rfl, Or.inl rfl, Or.inl rfl, trivial⟩
  · replace hm := xif_t q hm
    refine xw_iinc (pc := 87) (i := 4) (x := x4) (v := (x4 + (1 : Int32))) (L' := [some (.ref x0), some (.int x1), some (.int x2), some (.int x3), some (.int (x4 + (1 : Int32))), some (.int x5), none, some (.int s0)]) C dX5_countSeeming_87 rfl (congrArg (HAdd.hAdd _) xk_i_1) (Nat.le_of_ble_eq_true rfl) rfl ?_
    refine xw_iinc (pc := 90) (i := 5) (x := x5) (v := (x5 + (1 : Int32))) (L' := [some (.ref x0), some (.int x1), some (.int x2), some (.int x3), some (.int (x4 + (1 : Int32))), some (.int (x5 + (1 : Int32))), none, some (.int s0)]) C dX5_countSeeming_90 rfl (congrArg (HAdd.hAdd _) xk_i_1) (Nat.le_of_ble_eq_true rfl) rfl ?_
    refine xw_goto (pc := 93) (tgt := 22) C dX5_countSeeming_93 (by decide) ?_
    obtain rfl := Option.some.inj hm
    refine xw_sub (pc := 22) _ ?_ (hc _ rfl)
    exact ⟨Or.inr rfl, Or.inr rfl, Or.inr rfl, Or.inr rfl, Or.inr rfl, Or.inr rfl, Or.inl rfl, Or.inl rfl, trivial⟩
set_option maxHeartbeats 4000000 in
set_option maxRecDepth 100000 in
theorem fX5_countSeeming_B22_w {X : XCtx} (C : XOK X RX5 cX5_countSeeming 8 "countSeeming" (some .int) 3 70) {n sl : Nat} (hN : XN X n sl) {h : XH} {x0 : Nat} {x1 : Int32} {x2 : Int32} {x3 : Int32} (s : (Int32 × Int32)) (o : (Int32 × Int32) ⊕ Int32) (hm : fX5_countSeeming_B22 h x0 x1 x2 x3 s = some o) (hc : ∀ s', o = .inl s' → fX5_countSeeming_P22 X h x0 x1 x2 x3 n sl s') (he : ∀ e', o = .inr e' → fX5_countSeeming_E22 X h x0 x1 x2 x3 n sl e') : fX5_countSeeming_P22 X h x0 x1 x2 x3 n sl s := by
  obtain ⟨x4, x5⟩ := s
  show XW X 22 [some (.ref x0), some (.int x1), some (.int x2), some (.int x3), some (.int x4), some (.int x5), none, none] [] h n sl
  replace hm : fX5_countSeeming_b22 h x0 x1 x2 x3 x4 x5 = some o := hm
  unfold fX5_countSeeming_b22 at hm
  refine xw_iload (pc := 22) (i := 5) (x := x5) C dX5_countSeeming_22 rfl ?_
  refine xw_iconst (pc := 24) (v := 1) C dX5_countSeeming_24 xk_i_1 ?_
  refine xw_iadd (pc := 25) C dX5_countSeeming_25 ?_
  refine xw_iload_n (pc := 26) (i := 3) (x := x3) C dX5_countSeeming_26 rfl rfl ?_
  refine xw_icmp_ge (pc := 27) (tgt := 96) C dX5_countSeeming_27 (by decide) (fun q => ?_) (fun q => ?_)
  · replace hm := xif_t q hm
    obtain rfl := Option.some.inj hm
    refine xw_sub (pc := 96) _ ?_ (he _ rfl)
    exact ⟨Or.inl rfl, Or.inl rfl, Or.inl rfl, Or.inl rfl, Or.inr rfl, Or.inl rfl, Or.inl rfl, Or.inl rfl, trivial⟩
  · replace hm := xif_f q hm
    refine xw_aload_n (pc := 30) (i := 0) (x := x0) C dX5_countSeeming_30 rfl rfl ?_
    obtain ⟨v11, q12, hm⟩ := xbind hm
    refine xw_getR (pc := 31) C dX5_countSeeming_31 fl_X5_10 q12 ?_
    refine xw_aload_n (pc := 34) (i := 0) (x := x0) C dX5_countSeeming_34 rfl rfl ?_
    obtain ⟨v13, q14, hm⟩ := xbind hm
    refine xw_getR (pc := 35) C dX5_countSeeming_35 fl_X5_19 q14 ?_
    refine xw_iload (pc := 38) (i := 5) (x := x5) C dX5_countSeeming_38 rfl ?_
    obtain ⟨_, q15, hm⟩ := xbind hm
    obtain ⟨v16, q17, hm⟩ := xbind hm
    refine xw_callV1 (pc := 40) (As := [.int x5]) (st := [.ref v11]) C dX5_countSeeming_40 (wX2_tickOf q17) dd_X2_tickOf lk_X5_54 dv_X2_tickOf (xco_spec q15) rfl (Nat.le_of_ble_eq_true rfl) (Nat.le_of_ble_eq_true rfl) (Nat.le_of_ble_eq_true rfl) ⟨Nat.le_refl _, Nat.le_refl _⟩ hN ?_
    refine xw_aload_n (pc := 43) (i := 0) (x := x0) C dX5_countSeeming_43 rfl rfl ?_
    obtain ⟨v18, q19, hm⟩ := xbind hm
    refine xw_getR (pc := 44) C dX5_countSeeming_44 fl_X5_19 q19 ?_
    refine xw_iload (pc := 47) (i := 5) (x := x5) C dX5_countSeeming_47 rfl ?_
    refine xw_iconst (pc := 49) (v := 1) C dX5_countSeeming_49 xk_i_1 ?_
    refine xw_iadd (pc := 50) C dX5_countSeeming_50 ?_
    obtain ⟨_, q20, hm⟩ := xbind hm
    obtain ⟨v21, q22, hm⟩ := xbind hm
    refine xw_callV1 (pc := 51) (As := [.int (x5 + (1 : Int32))]) (st := [.int v16, .ref v11]) C dX5_countSeeming_51 (wX2_tickOf q22) dd_X2_tickOf lk_X5_54 dv_X2_tickOf (xco_spec q20) rfl (Nat.le_of_ble_eq_true rfl) (Nat.le_of_ble_eq_true rfl) (Nat.le_of_ble_eq_true rfl) ⟨Nat.le_refl _, Nat.le_refl _⟩ hN ?_
    refine xw_iload_n (pc := 54) (i := 2) (x := x2) C dX5_countSeeming_54 rfl rfl ?_
    obtain ⟨_, q23, hm⟩ := xbind hm
    obtain ⟨v24, q25, hm⟩ := xbind hm
    refine xw_callV1 (pc := 55) (As := [.int v16, .int v21, .int x2]) (st := []) C dX5_countSeeming_55 (wX6_stepBetween q25) dd_X6_stepBetween lk_X5_70 dv_X6_stepBetween (xco_spec q23) rfl (Nat.le_of_ble_eq_true rfl) (Nat.le_of_ble_eq_true rfl) (Nat.le_of_ble_eq_true rfl) ⟨Nat.le_refl _, Nat.le_refl _⟩ hN ?_
    refine xw_istore (pc := 58) (i := 6) (x := v24) (L' := [some (.ref x0), some (.int x1), some (.int x2), some (.int x3), some (.int x4), some (.int x5), some (.int v24), none]) C dX5_countSeeming_58 (Nat.le_of_ble_eq_true rfl) rfl ?_
    refine xw_iload (pc := 60) (i := 6) (x := v24) C dX5_countSeeming_60 rfl ?_
    refine xw_if_ne (pc := 62) (tgt := 69) C dX5_countSeeming_62 (by decide) (fun q => ?_) (fun q => ?_)
    · replace hm := xif_f q hm
      refine xw_iload (pc := 69) (i := 6) (x := v24) C dX5_countSeeming_69 rfl ?_
      refine xw_if_le (pc := 71) (tgt := 78) C dX5_countSeeming_71 (by decide) (fun q => ?_) (fun q => ?_)
      · replace hm := xif_t q hm
        refine xw_iconst (pc := 78) (v := 2) C dX5_countSeeming_78 xk_i_2 ?_
        exact xw_sub (pc := 79) [some (.ref x0), some (.int x1), some (.int x2), some (.int x3), some (.int x4), some (.int x5), none, none] ⟨Or.inr rfl, Or.inr rfl, Or.inr rfl, Or.inr rfl, Or.inr rfl, Or.inr rfl, Or.inl rfl, Or.inl rfl, trivial⟩ (fX5_countSeeming_J79_w C hN hm hc he)
      · replace hm := xif_f q hm
        refine xw_iconst (pc := 74) (v := 1) C dX5_countSeeming_74 xk_i_1 ?_
        refine xw_goto (pc := 75) (tgt := 79) C dX5_countSeeming_75 (by decide) ?_
        exact xw_sub (pc := 79) [some (.ref x0), some (.int x1), some (.int x2), some (.int x3), some (.int x4), some (.int x5), none, none] ⟨Or.inr rfl, Or.inr rfl, Or.inr rfl, Or.inr rfl, Or.inr rfl, Or.inr rfl, Or.inl rfl, Or.inl rfl, trivial⟩ (fX5_countSeeming_J79_w C hN hm hc he)
    · replace hm := xif_t q hm
      refine xw_iconst (pc := 65) (v := 0) C dX5_countSeeming_65 xk_i_0 ?_
      refine xw_goto (pc := 66) (tgt := 79) C dX5_countSeeming_66 (by decide) ?_
      exact xw_sub (pc := 79) [some (.ref x0), some (.int x1), some (.int x2), some (.int x3), some (.int x4), some (.int x5), none, none] ⟨Or.inr rfl, Or.inr rfl, Or.inr rfl, Or.inr rfl, Or.inr rfl, Or.inr rfl, Or.inl rfl, Or.inl rfl, trivial⟩ (fX5_countSeeming_J79_w C hN hm hc he)
set_option maxHeartbeats 4000000 in
set_option maxRecDepth 100000 in
theorem wX5_countSeeming {l : Launch} {n sl : Nat} {h : XH} {x0 : Nat} {x1 : Int32} {o : Int32} (hm : fX5_countSeeming h x0 x1 = some o) : XM l yX5_countSeeming cX5_countSeeming 8 (some .int) 3 70 [.ref x0, .int x1] h n sl (some (.int o)) h n sl := by
  refine xm_of pnX5 [some (.ref x0), some (.int x1), none, none, none, none, none, none] 6 rfl (Nat.le_of_ble_eq_true rfl) ?_
  intro X hT C
  replace C : XOK X RX5 cX5_countSeeming 8 "countSeeming" (some .int) 3 70 := C
  obtain ⟨-, hN, hX⟩ := hT
  unfold fX5_countSeeming at hm
  refine xw_aload_n (pc := 0) (i := 0) (x := x0) C dX5_countSeeming_0 rfl rfl ?_
  obtain ⟨v1, q2, hm⟩ := xbind hm
  refine xw_getR (pc := 1) C dX5_countSeeming_1 fl_X5_10 q2 ?_
  obtain ⟨_, q3, hm⟩ := xbind hm
  obtain ⟨v4, q5, hm⟩ := xbind hm
  refine xw_callV1 (pc := 4) (As := []) (st := []) C dX5_countSeeming_4 (wX6_measure q5) dd_X6_measure lk_X5_50 dv_X6_measure (xco_spec q3) rfl (Nat.le_of_ble_eq_true rfl) (Nat.le_of_ble_eq_true rfl) (Nat.le_of_ble_eq_true rfl) ⟨Nat.le_refl _, Nat.le_refl _⟩ hN ?_
  refine xw_istore_n (pc := 7) (i := 2) (x := v4) (L' := [some (.ref x0), some (.int x1), some (.int v4), none, none, none, none, none]) C dX5_countSeeming_7 rfl (Nat.le_of_ble_eq_true rfl) rfl ?_
  refine xw_aload_n (pc := 8) (i := 0) (x := x0) C dX5_countSeeming_8 rfl rfl ?_
  obtain ⟨v6, q7, hm⟩ := xbind hm
  refine xw_getR (pc := 9) C dX5_countSeeming_9 fl_X5_19 q7 ?_
  obtain ⟨_, q8, hm⟩ := xbind hm
  obtain ⟨v9, q10, hm⟩ := xbind hm
  refine xw_callV1 (pc := 12) (As := []) (st := []) C dX5_countSeeming_12 (wX2_number q10) dd_X2_number lk_X5_67 dv_X2_number (xco_spec q8) rfl (Nat.le_of_ble_eq_true rfl) (Nat.le_of_ble_eq_true rfl) (Nat.le_of_ble_eq_true rfl) ⟨Nat.le_refl _, Nat.le_refl _⟩ hN ?_
  refine xw_istore_n (pc := 15) (i := 3) (x := v9) (L' := [some (.ref x0), some (.int x1), some (.int v4), some (.int v9), none, none, none, none]) C dX5_countSeeming_15 rfl (Nat.le_of_ble_eq_true rfl) rfl ?_
  refine xw_iconst (pc := 16) (v := 0) C dX5_countSeeming_16 xk_i_0 ?_
  refine xw_istore (pc := 17) (i := 4) (x := (0 : Int32)) (L' := [some (.ref x0), some (.int x1), some (.int v4), some (.int v9), some (.int (0 : Int32)), none, none, none]) C dX5_countSeeming_17 (Nat.le_of_ble_eq_true rfl) rfl ?_
  refine xw_iconst (pc := 19) (v := 0) C dX5_countSeeming_19 xk_i_0 ?_
  refine xw_istore (pc := 20) (i := 5) (x := (0 : Int32)) (L' := [some (.ref x0), some (.int x1), some (.int v4), some (.int v9), some (.int (0 : Int32)), some (.int (0 : Int32)), none, none]) C dX5_countSeeming_20 (Nat.le_of_ble_eq_true rfl) rfl ?_
  obtain ⟨e26, q27, hm⟩ := xbind hm
  refine xw_sub (pc := 22) [some (.ref x0), some (.int x1), some (.int v4), some (.int v9), some (.int (0 : Int32)), some (.int (0 : Int32)), none, none] ⟨Or.inr rfl, Or.inr rfl, Or.inr rfl, Or.inr rfl, Or.inr rfl, Or.inr rfl, Or.inl rfl, Or.inl rfl, trivial⟩ ?_
  refine xloop_walk (fX5_countSeeming_B22 h x0 x1 v4 v9) (fX5_countSeeming_P22 X h x0 x1 v4 v9 n sl) (fX5_countSeeming_E22 X h x0 x1 v4 v9 n sl) (fun s' o' => fX5_countSeeming_B22_w C hN s' o') 5000 ((0 : Int32), (0 : Int32)) e26 q27 ?_
  show XW X 96 [none, none, none, none, some (.int e26), none, none, none] [] h n sl
  refine xw_iload (pc := 96) (i := 4) (x := e26) C dX5_countSeeming_96 rfl ?_
  obtain rfl := Option.some.inj hm
  exact xw_ireturn (pc := 98) C dX5_countSeeming_98 rfl hX
